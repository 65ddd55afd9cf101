theorem dX8_init_0 : decode cX8_init 0 = .ok (.aload_n 0, 1) := by decide +kernel
theorem dX8_init_1 : decode cX8_init 1 = .ok (.invokespecial 1, 3) := by decide +kernel
theorem dX8_init_4 : decode cX8_init 4 = .ok (.aload_n 0, 1) := by decide +kernel
theorem dX8_init_5 : decode cX8_init 5 = .ok (.new 7, 3) := by decide +kernel
theorem dX8_init_8 : decode cX8_init 8 = .ok (.dup, 1) := by decide +kernel
theorem dX8_init_9 : decode cX8_init 9 = .ok (.invokespecial 9, 3) := by decide +kernel
theorem dX8_init_12 : decode cX8_init 12 = .ok (.putfield 10, 3) := by decide +kernel
theorem dX8_init_15 : decode cX8_init 15 = .ok (.aload_n 0, 1) := by decide +kernel
theorem dX8_init_16 : decode cX8_init 16 = .ok (.new 16, 3) := by decide +kernel
theorem dX8_init_19 : decode cX8_init 19 = .ok (.dup, 1) := by decide +kernel
theorem dX8_init_20 : decode cX8_init 20 = .ok (.aload_n 0, 1) := by decide +kernel
theorem dX8_init_21 : decode cX8_init 21 = .ok (.getfield 10, 3) := by decide +kernel
theorem dX8_init_24 : decode cX8_init 24 = .ok (.invokespecial 18, 3) := by decide +kernel
theorem dX8_init_27 : decode cX8_init 27 = .ok (.putfield 21, 3) := by decide +kernel
theorem dX8_init_30 : decode cX8_init 30 = .ok (.aload_n 0, 1) := by decide +kernel
theorem dX8_init_31 : decode cX8_init 31 = .ok (.bipush 6, 2) := by decide +kernel
theorem dX8_init_33 : decode cX8_init 33 = .ok (.anewarray 25, 3) := by decide +kernel
theorem dX8_init_36 : decode cX8_init 36 = .ok (.putfield 27, 3) := by decide +kernel
theorem dX8_init_39 : decode cX8_init 39 = .ok (.aload_n 0, 1) := by decide +kernel
theorem dX8_init_40 : decode cX8_init 40 = .ok (.new 31, 3) := by decide +kernel
theorem dX8_init_43 : decode cX8_init 43 = .ok (.dup, 1) := by decide +kernel
theorem dX8_init_44 : decode cX8_init 44 = .ok (.invokespecial 33, 3) := by decide +kernel
theorem dX8_init_47 : decode cX8_init 47 = .ok (.putfield 34, 3) := by decide +kernel
theorem dX8_init_50 : decode cX8_init 50 = .ok (.aload_n 0, 1) := by decide +kernel
theorem dX8_init_51 : decode cX8_init 51 = .ok (.bipush 120, 2) := by decide +kernel
theorem dX8_init_53 : decode cX8_init 53 = .ok (.newarray .byte, 2) := by decide +kernel
theorem dX8_init_55 : decode cX8_init 55 = .ok (.putfield 38, 3) := by decide +kernel
theorem dX8_init_58 : decode cX8_init 58 = .ok (.aload_n 0, 1) := by decide +kernel
theorem dX8_init_59 : decode cX8_init 59 = .ok (.new 42, 3) := by decide +kernel
theorem dX8_init_62 : decode cX8_init 62 = .ok (.dup, 1) := by decide +kernel
theorem dX8_init_63 : decode cX8_init 63 = .ok (.invokespecial 44, 3) := by decide +kernel
theorem dX8_init_66 : decode cX8_init 66 = .ok (.putfield 45, 3) := by decide +kernel
theorem dX8_init_69 : decode cX8_init 69 = .ok (.aload_n 0, 1) := by decide +kernel
theorem dX8_init_70 : decode cX8_init 70 = .ok (.new 49, 3) := by decide +kernel
theorem dX8_init_73 : decode cX8_init 73 = .ok (.dup, 1) := by decide +kernel
theorem dX8_init_74 : decode cX8_init 74 = .ok (.aload_n 0, 1) := by decide +kernel
theorem dX8_init_75 : decode cX8_init 75 = .ok (.getfield 38, 3) := by decide +kernel
theorem dX8_init_78 : decode cX8_init 78 = .ok (.aload_n 0, 1) := by decide +kernel
theorem dX8_init_79 : decode cX8_init 79 = .ok (.getfield 45, 3) := by decide +kernel
theorem dX8_init_82 : decode cX8_init 82 = .ok (.invokespecial 51, 3) := by decide +kernel
theorem dX8_init_85 : decode cX8_init 85 = .ok (.putfield 54, 3) := by decide +kernel
theorem dX8_init_88 : decode cX8_init 88 = .ok (.aload_n 0, 1) := by decide +kernel
theorem dX8_init_89 : decode cX8_init 89 = .ok (.new 58, 3) := by decide +kernel
theorem dX8_init_92 : decode cX8_init 92 = .ok (.dup, 1) := by decide +kernel
theorem dX8_init_93 : decode cX8_init 93 = .ok (.aload_n 0, 1) := by decide +kernel
theorem dX8_init_94 : decode cX8_init 94 = .ok (.getfield 10, 3) := by decide +kernel
theorem dX8_init_97 : decode cX8_init 97 = .ok (.invokespecial 60, 3) := by decide +kernel
theorem dX8_init_100 : decode cX8_init 100 = .ok (.putfield 61, 3) := by decide +kernel
theorem dX8_init_103 : decode cX8_init 103 = .ok (.aload_n 0, 1) := by decide +kernel
theorem dX8_init_104 : decode cX8_init 104 = .ok (.new 65, 3) := by decide +kernel
theorem dX8_init_107 : decode cX8_init 107 = .ok (.dup, 1) := by decide +kernel
theorem dX8_init_108 : decode cX8_init 108 = .ok (.invokespecial 67, 3) := by decide +kernel
theorem dX8_init_111 : decode cX8_init 111 = .ok (.putfield 68, 3) := by decide +kernel
theorem dX8_init_114 : decode cX8_init 114 = .ok (.aload_n 0, 1) := by decide +kernel
theorem dX8_init_115 : decode cX8_init 115 = .ok (.new 65, 3) := by decide +kernel
theorem dX8_init_118 : decode cX8_init 118 = .ok (.dup, 1) := by decide +kernel
theorem dX8_init_119 : decode cX8_init 119 = .ok (.invokespecial 67, 3) := by decide +kernel
theorem dX8_init_122 : decode cX8_init 122 = .ok (.putfield 72, 3) := by decide +kernel
theorem dX8_init_125 : decode cX8_init 125 = .ok (.return_, 1) := by decide +kernel
set_option maxRecDepth 20000 in
theorem ggX8_put_X8_isMap : GoodIn wsX8_put wsX8_isMap := goodIn_r _ [8, 9, 10, 7, 11] (by decide +kernel) (by decide +kernel)
set_option maxRecDepth 20000 in
theorem gX8_put_X8_isMap : GoodIn wsX8_put (va_wsS RX8 75 yX8_isMap wsX8_isMap) := goodIn_app (goodIn_of _ (by decide +kernel)) ggX8_put_X8_isMap
set_option maxRecDepth 20000 in
theorem ggX8_put_X8_isKey : GoodIn wsX8_put wsX8_isKey := goodIn_r _ [14, 9, 10, 7, 11] (by decide +kernel) (by decide +kernel)
set_option maxRecDepth 20000 in
theorem gX8_put_X8_isKey : GoodIn wsX8_put (va_wsS RX8 79 yX8_isKey wsX8_isKey) := goodIn_app (goodIn_of _ (by decide +kernel)) ggX8_put_X8_isKey
set_option maxRecDepth 20000 in
theorem ggX8_put_X8_isValue : GoodIn wsX8_put wsX8_isValue := goodIn_r _ [17, 18, 19, 9, 10, 7, 11] (by decide +kernel) (by decide +kernel)
set_option maxRecDepth 20000 in
theorem gX8_put_X8_isValue : GoodIn wsX8_put (va_wsS RX8 82 yX8_isValue wsX8_isValue) := goodIn_app (goodIn_of _ (by decide +kernel)) ggX8_put_X8_isValue
set_option maxRecDepth 20000 in
theorem ggX8_put_X8_bad : GoodIn wsX8_put wsX8_bad := goodIn_r _ [23, 24, 25, 149, 150, 151, 152, 153, 154, 155, 156, 157, 158, 159, 160, 161, 162] (by decide +kernel) (by decide +kernel)
set_option maxRecDepth 20000 in
theorem gX8_put_X8_bad : GoodIn wsX8_put (wsV RX8 85 RX8 yX8_bad wsX8_bad) := goodIn_app (goodIn_of _ (by decide +kernel)) ggX8_put_X8_bad
set_option maxRecDepth 20000 in
theorem ggX8_put_X3_find : GoodIn wsX8_put wsX3_find := goodIn_r _ [29, 30, 31, 32, 163, 164, 165, 166, 167, 168, 169, 170, 171] (by decide +kernel) (by decide +kernel)
set_option maxRecDepth 20000 in
theorem gX8_put_X3_find : GoodIn wsX8_put (va_wsS RX8 89 yX3_find wsX3_find) := goodIn_app (goodIn_of _ (by decide +kernel)) ggX8_put_X3_find
set_option maxRecDepth 20000 in
theorem ggX8_put_X3_countOf : GoodIn wsX8_put wsX3_countOf := goodIn_r _ [35, 36, 163, 164, 165, 166, 167, 168, 169, 170, 171] (by decide +kernel) (by decide +kernel)
set_option maxRecDepth 20000 in
theorem gX8_put_X3_countOf : GoodIn wsX8_put (va_wsS RX8 93 yX3_countOf wsX3_countOf) := goodIn_app (goodIn_of _ (by decide +kernel)) ggX8_put_X3_countOf
set_option maxRecDepth 20000 in
theorem ggX8_put_X8_full : GoodIn wsX8_put wsX8_full := goodIn_r _ [40, 41, 42, 149, 150, 151, 152, 153, 154, 155, 156, 157, 158, 159, 160, 161, 162] (by decide +kernel) (by decide +kernel)
set_option maxRecDepth 20000 in
theorem gX8_put_X8_full : GoodIn wsX8_put (wsV RX8 97 RX8 yX8_full wsX8_full) := goodIn_app (goodIn_of _ (by decide +kernel)) ggX8_put_X8_full
set_option maxRecDepth 20000 in
theorem ggX8_put_X8_startChange : GoodIn wsX8_put wsX8_startChange := goodIn_r _ [46, 4, 1, 47, 48, 49, 50, 51, 52, 53, 54, 55, 56, 57, 58, 59, 60, 61, 62, 63, 64, 65, 66, 67, 68, 69, 70, 71, 72, 73, 74, 75, 76, 77, 78, 79, 80, 81, 149, 150, 151, 152, 153, 154, 155, 156, 157, 158, 159, 160, 161, 162, 172, 173, 174, 175, 176, 177, 178, 179, 180, 181, 182, 163, 164, 165, 166, 167, 168, 169, 170, 171] (by decide +kernel) (by decide +kernel)
set_option maxRecDepth 20000 in
theorem gX8_put_X8_startChange : GoodIn wsX8_put (wsV RX8 105 RX8 yX8_startChange wsX8_startChange) := goodIn_app (goodIn_of _ (by decide +kernel)) ggX8_put_X8_startChange
set_option maxRecDepth 20000 in
theorem ggX8_put_X2_with : GoodIn wsX8_put wsX2_with := goodIn_r _ [85, 86, 87, 88, 55, 89, 90, 72, 73, 91, 92, 93, 94, 95, 96, 97, 28, 98, 99, 34, 35, 36, 100, 101, 102, 103, 104, 105, 106, 78, 107, 108, 79, 81, 80, 57, 109, 110, 111, 112, 113, 114, 115, 116, 117, 118, 119, 120, 121, 122, 123, 124, 125, 126, 127, 128, 129, 130, 131, 132, 163, 164, 165, 166, 167, 168, 169, 170, 171, 179, 180, 181, 182] (by decide +kernel) (by decide +kernel)
set_option maxRecDepth 20000 in
theorem gX8_put_X2_with : GoodIn wsX8_put (wsV RX8 108 RX2 yX2_with wsX2_with) := goodIn_app (goodIn_of _ (by decide +kernel)) ggX8_put_X2_with
set_option maxRecDepth 20000 in
theorem ggX8_put_X8_settle : GoodIn wsX8_put wsX8_settle := goodIn_r _ [136, 47, 1, 137, 138, 139, 140, 141, 142, 143, 144, 145, 146, 147, 148, 33, 34, 28, 35, 36, 149, 150, 151, 152, 153, 154, 155, 156, 157, 158, 159, 160, 161, 162, 172, 173, 174, 163, 164, 165, 166, 167, 168, 169, 170, 171] (by decide +kernel) (by decide +kernel)
set_option maxRecDepth 20000 in
theorem gX8_put_X8_settle : GoodIn wsX8_put (wsV RX8 112 RX8 yX8_settle wsX8_settle) := goodIn_app (goodIn_of _ (by decide +kernel)) ggX8_put_X8_settle
theorem dX8_put_0 : decode cX8_put 0 = .ok (.iload_n 1, 1) := by decide +kernel
theorem dX8_put_1 : decode cX8_put 1 = .ok (.invokestatic 75, 3) := by decide +kernel
theorem dX8_put_4 : decode cX8_put 4 = .ok (.ifCond .eq 17, 3) := by decide +kernel
theorem dX8_put_7 : decode cX8_put 7 = .ok (.iload_n 2, 1) := by decide +kernel
theorem dX8_put_8 : decode cX8_put 8 = .ok (.invokestatic 79, 3) := by decide +kernel
theorem dX8_put_11 : decode cX8_put 11 = .ok (.ifCond .eq 10, 3) := by decide +kernel
theorem dX8_put_14 : decode cX8_put 14 = .ok (.iload_n 3, 1) := by decide +kernel
theorem dX8_put_15 : decode cX8_put 15 = .ok (.invokestatic 82, 3) := by decide +kernel
theorem dX8_put_18 : decode cX8_put 18 = .ok (.ifCond .ne 8, 3) := by decide +kernel
theorem dX8_put_21 : decode cX8_put 21 = .ok (.aload_n 0, 1) := by decide +kernel
theorem dX8_put_22 : decode cX8_put 22 = .ok (.invokevirtual 85, 3) := by decide +kernel
theorem dX8_put_25 : decode cX8_put 25 = .ok (.ireturn, 1) := by decide +kernel
theorem dX8_put_26 : decode cX8_put 26 = .ok (.aload_n 0, 1) := by decide +kernel
theorem dX8_put_27 : decode cX8_put 27 = .ok (.getfield 27, 3) := by decide +kernel
theorem dX8_put_30 : decode cX8_put 30 = .ok (.iload_n 1, 1) := by decide +kernel
theorem dX8_put_31 : decode cX8_put 31 = .ok (.aaload, 1) := by decide +kernel
theorem dX8_put_32 : decode cX8_put 32 = .ok (.iload_n 2, 1) := by decide +kernel
theorem dX8_put_33 : decode cX8_put 33 = .ok (.invokestatic 89, 3) := by decide +kernel
theorem dX8_put_36 : decode cX8_put 36 = .ok (.astore 4, 2) := by decide +kernel
theorem dX8_put_38 : decode cX8_put 38 = .ok (.aload 4, 2) := by decide +kernel
theorem dX8_put_40 : decode cX8_put 40 = .ok (.ifnonnull 23, 3) := by decide +kernel
theorem dX8_put_43 : decode cX8_put 43 = .ok (.aload_n 0, 1) := by decide +kernel
theorem dX8_put_44 : decode cX8_put 44 = .ok (.getfield 27, 3) := by decide +kernel
theorem dX8_put_47 : decode cX8_put 47 = .ok (.iload_n 1, 1) := by decide +kernel
theorem dX8_put_48 : decode cX8_put 48 = .ok (.aaload, 1) := by decide +kernel
theorem dX8_put_49 : decode cX8_put 49 = .ok (.invokestatic 93, 3) := by decide +kernel
theorem dX8_put_52 : decode cX8_put 52 = .ok (.sipush 200, 3) := by decide +kernel
theorem dX8_put_55 : decode cX8_put 55 = .ok (.if_icmp .lt 8, 3) := by decide +kernel
theorem dX8_put_58 : decode cX8_put 58 = .ok (.aload_n 0, 1) := by decide +kernel
theorem dX8_put_59 : decode cX8_put 59 = .ok (.invokevirtual 97, 3) := by decide +kernel
theorem dX8_put_62 : decode cX8_put 62 = .ok (.ireturn, 1) := by decide +kernel
theorem dX8_put_63 : decode cX8_put 63 = .ok (.aload 4, 2) := by decide +kernel
theorem dX8_put_65 : decode cX8_put 65 = .ok (.ifnonnull 8, 3) := by decide +kernel
theorem dX8_put_68 : decode cX8_put 68 = .ok (.ldc 100, 2) := by decide +kernel
theorem dX8_put_70 : decode cX8_put 70 = .ok (.goto 8, 3) := by decide +kernel
theorem dX8_put_73 : decode cX8_put 73 = .ok (.aload 4, 2) := by decide +kernel
theorem dX8_put_75 : decode cX8_put 75 = .ok (.getfield 101, 3) := by decide +kernel
theorem dX8_put_78 : decode cX8_put 78 = .ok (.istore 5, 2) := by decide +kernel
theorem dX8_put_80 : decode cX8_put 80 = .ok (.aload_n 0, 1) := by decide +kernel
theorem dX8_put_81 : decode cX8_put 81 = .ok (.invokevirtual 105, 3) := by decide +kernel
theorem dX8_put_84 : decode cX8_put 84 = .ok (.aload_n 0, 1) := by decide +kernel
theorem dX8_put_85 : decode cX8_put 85 = .ok (.iload_n 1, 1) := by decide +kernel
theorem dX8_put_86 : decode cX8_put 86 = .ok (.aload_n 0, 1) := by decide +kernel
theorem dX8_put_87 : decode cX8_put 87 = .ok (.getfield 10, 3) := by decide +kernel
theorem dX8_put_90 : decode cX8_put 90 = .ok (.aload_n 0, 1) := by decide +kernel
theorem dX8_put_91 : decode cX8_put 91 = .ok (.getfield 27, 3) := by decide +kernel
theorem dX8_put_94 : decode cX8_put 94 = .ok (.iload_n 1, 1) := by decide +kernel
theorem dX8_put_95 : decode cX8_put 95 = .ok (.aaload, 1) := by decide +kernel
theorem dX8_put_96 : decode cX8_put 96 = .ok (.iload_n 2, 1) := by decide +kernel
theorem dX8_put_97 : decode cX8_put 97 = .ok (.iload_n 3, 1) := by decide +kernel
theorem dX8_put_98 : decode cX8_put 98 = .ok (.invokevirtual 108, 3) := by decide +kernel
theorem dX8_put_101 : decode cX8_put 101 = .ok (.invokevirtual 112, 3) := by decide +kernel
theorem dX8_put_104 : decode cX8_put 104 = .ok (.pop, 1) := by decide +kernel
theorem dX8_put_105 : decode cX8_put 105 = .ok (.iload 5, 2) := by decide +kernel
theorem dX8_put_107 : decode cX8_put 107 = .ok (.ireturn, 1) := by decide +kernel
set_option maxRecDepth 20000 in
theorem ggX8_remove_X8_isMap : GoodIn wsX8_remove wsX8_isMap := goodIn_r _ [7, 8, 9, 6, 10] (by decide +kernel) (by decide +kernel)
set_option maxRecDepth 20000 in
theorem gX8_remove_X8_isMap : GoodIn wsX8_remove (va_wsS RX8 75 yX8_isMap wsX8_isMap) := goodIn_app (goodIn_of _ (by decide +kernel)) ggX8_remove_X8_isMap
set_option maxRecDepth 20000 in
theorem ggX8_remove_X8_isKey : GoodIn wsX8_remove wsX8_isKey := goodIn_r _ [13, 8, 9, 6, 10] (by decide +kernel) (by decide +kernel)
set_option maxRecDepth 20000 in
theorem gX8_remove_X8_isKey : GoodIn wsX8_remove (va_wsS RX8 79 yX8_isKey wsX8_isKey) := goodIn_app (goodIn_of _ (by decide +kernel)) ggX8_remove_X8_isKey
set_option maxRecDepth 20000 in
theorem ggX8_remove_X8_bad : GoodIn wsX8_remove wsX8_bad := goodIn_r _ [17, 18, 19, 147, 148, 149, 150, 151, 152, 153, 154, 155, 156, 157, 158, 159, 160] (by decide +kernel) (by decide +kernel)
set_option maxRecDepth 20000 in
theorem gX8_remove_X8_bad : GoodIn wsX8_remove (wsV RX8 85 RX8 yX8_bad wsX8_bad) := goodIn_app (goodIn_of _ (by decide +kernel)) ggX8_remove_X8_bad
set_option maxRecDepth 20000 in
theorem ggX8_remove_X3_find : GoodIn wsX8_remove wsX3_find := goodIn_r _ [23, 24, 25, 26, 161, 162, 163, 164, 165, 166, 167, 168, 169] (by decide +kernel) (by decide +kernel)
set_option maxRecDepth 20000 in
theorem gX8_remove_X3_find : GoodIn wsX8_remove (va_wsS RX8 89 yX3_find wsX3_find) := goodIn_app (goodIn_of _ (by decide +kernel)) ggX8_remove_X3_find
set_option maxRecDepth 20000 in
theorem ggX8_remove_X8_no : GoodIn wsX8_remove wsX8_no := goodIn_r _ [30, 31, 32, 147, 148, 149, 150, 151, 152, 153, 154, 155, 156, 157, 158, 159, 160] (by decide +kernel) (by decide +kernel)
set_option maxRecDepth 20000 in
theorem gX8_remove_X8_no : GoodIn wsX8_remove (wsV RX8 116 RX8 yX8_no wsX8_no) := goodIn_app (goodIn_of _ (by decide +kernel)) ggX8_remove_X8_no
set_option maxRecDepth 20000 in
theorem ggX8_remove_X8_startChange : GoodIn wsX8_remove wsX8_startChange := goodIn_r _ [36, 3, 1, 37, 38, 39, 40, 41, 42, 43, 44, 45, 46, 47, 48, 49, 50, 51, 52, 53, 54, 55, 56, 57, 58, 59, 60, 61, 62, 63, 64, 65, 66, 67, 68, 69, 70, 71, 147, 148, 149, 150, 151, 152, 153, 154, 155, 156, 157, 158, 159, 160, 170, 171, 172, 173, 174, 175, 176, 177, 178, 179, 180, 161, 162, 163, 164, 165, 166, 167, 168, 169] (by decide +kernel) (by decide +kernel)
set_option maxRecDepth 20000 in
theorem gX8_remove_X8_startChange : GoodIn wsX8_remove (wsV RX8 105 RX8 yX8_startChange wsX8_startChange) := goodIn_app (goodIn_of _ (by decide +kernel)) ggX8_remove_X8_startChange
set_option maxRecDepth 20000 in
theorem ggX8_remove_X2_without : GoodIn wsX8_remove wsX2_without := goodIn_r _ [75, 76, 77, 78, 45, 79, 80, 62, 63, 81, 82, 83, 84, 85, 86, 87, 22, 88, 89, 90, 91, 92, 93, 94, 95, 96, 97, 98, 99, 68, 100, 101, 69, 71, 70, 47, 102, 103, 104, 105, 106, 107, 108, 109, 110, 111, 112, 113, 114, 115, 116, 117, 118, 119, 120, 121, 122, 123, 124, 125, 126, 127, 128, 129, 161, 162, 163, 164, 165, 166, 167, 168, 169, 177, 178, 179, 180] (by decide +kernel) (by decide +kernel)
set_option maxRecDepth 20000 in
theorem gX8_remove_X2_without : GoodIn wsX8_remove (wsV RX8 119 RX2 yX2_without wsX2_without) := goodIn_app (goodIn_of _ (by decide +kernel)) ggX8_remove_X2_without
set_option maxRecDepth 20000 in
theorem ggX8_remove_X8_settle : GoodIn wsX8_remove wsX8_settle := goodIn_r _ [133, 37, 1, 134, 135, 136, 137, 138, 139, 140, 141, 142, 143, 144, 145, 146, 90, 22, 91, 92, 147, 148, 149, 150, 151, 152, 153, 154, 155, 156, 157, 158, 159, 160, 170, 171, 172, 161, 162, 163, 164, 165, 166, 167, 168, 169] (by decide +kernel) (by decide +kernel)
set_option maxRecDepth 20000 in
theorem gX8_remove_X8_settle : GoodIn wsX8_remove (wsV RX8 112 RX8 yX8_settle wsX8_settle) := goodIn_app (goodIn_of _ (by decide +kernel)) ggX8_remove_X8_settle
theorem dX8_remove_0 : decode cX8_remove 0 = .ok (.iload_n 1, 1) := by decide +kernel
theorem dX8_remove_1 : decode cX8_remove 1 = .ok (.invokestatic 75, 3) := by decide +kernel
theorem dX8_remove_4 : decode cX8_remove 4 = .ok (.ifCond .eq 10, 3) := by decide +kernel
theorem dX8_remove_7 : decode cX8_remove 7 = .ok (.iload_n 2, 1) := by decide +kernel
theorem dX8_remove_8 : decode cX8_remove 8 = .ok (.invokestatic 79, 3) := by decide +kernel
theorem dX8_remove_11 : decode cX8_remove 11 = .ok (.ifCond .ne 8, 3) := by decide +kernel
theorem dX8_remove_14 : decode cX8_remove 14 = .ok (.aload_n 0, 1) := by decide +kernel
theorem dX8_remove_15 : decode cX8_remove 15 = .ok (.invokevirtual 85, 3) := by decide +kernel
theorem dX8_remove_18 : decode cX8_remove 18 = .ok (.ireturn, 1) := by decide +kernel
theorem dX8_remove_19 : decode cX8_remove 19 = .ok (.aload_n 0, 1) := by decide +kernel
theorem dX8_remove_20 : decode cX8_remove 20 = .ok (.getfield 27, 3) := by decide +kernel
theorem dX8_remove_23 : decode cX8_remove 23 = .ok (.iload_n 1, 1) := by decide +kernel
theorem dX8_remove_24 : decode cX8_remove 24 = .ok (.aaload, 1) := by decide +kernel
theorem dX8_remove_25 : decode cX8_remove 25 = .ok (.iload_n 2, 1) := by decide +kernel
theorem dX8_remove_26 : decode cX8_remove 26 = .ok (.invokestatic 89, 3) := by decide +kernel
theorem dX8_remove_29 : decode cX8_remove 29 = .ok (.astore_n 3, 1) := by decide +kernel
theorem dX8_remove_30 : decode cX8_remove 30 = .ok (.aload_n 3, 1) := by decide +kernel
theorem dX8_remove_31 : decode cX8_remove 31 = .ok (.ifnonnull 8, 3) := by decide +kernel
theorem dX8_remove_34 : decode cX8_remove 34 = .ok (.aload_n 0, 1) := by decide +kernel
theorem dX8_remove_35 : decode cX8_remove 35 = .ok (.invokevirtual 116, 3) := by decide +kernel
theorem dX8_remove_38 : decode cX8_remove 38 = .ok (.ireturn, 1) := by decide +kernel
theorem dX8_remove_39 : decode cX8_remove 39 = .ok (.aload_n 3, 1) := by decide +kernel
theorem dX8_remove_40 : decode cX8_remove 40 = .ok (.getfield 101, 3) := by decide +kernel
theorem dX8_remove_43 : decode cX8_remove 43 = .ok (.istore 4, 2) := by decide +kernel
theorem dX8_remove_45 : decode cX8_remove 45 = .ok (.aload_n 0, 1) := by decide +kernel
theorem dX8_remove_46 : decode cX8_remove 46 = .ok (.invokevirtual 105, 3) := by decide +kernel
theorem dX8_remove_49 : decode cX8_remove 49 = .ok (.aload_n 0, 1) := by decide +kernel
theorem dX8_remove_50 : decode cX8_remove 50 = .ok (.iload_n 1, 1) := by decide +kernel
theorem dX8_remove_51 : decode cX8_remove 51 = .ok (.aload_n 0, 1) := by decide +kernel
theorem dX8_remove_52 : decode cX8_remove 52 = .ok (.getfield 10, 3) := by decide +kernel
theorem dX8_remove_55 : decode cX8_remove 55 = .ok (.aload_n 0, 1) := by decide +kernel
theorem dX8_remove_56 : decode cX8_remove 56 = .ok (.getfield 27, 3) := by decide +kernel
theorem dX8_remove_59 : decode cX8_remove 59 = .ok (.iload_n 1, 1) := by decide +kernel
theorem dX8_remove_60 : decode cX8_remove 60 = .ok (.aaload, 1) := by decide +kernel
theorem dX8_remove_61 : decode cX8_remove 61 = .ok (.iload_n 2, 1) := by decide +kernel
theorem dX8_remove_62 : decode cX8_remove 62 = .ok (.iload_n 2, 1) := by decide +kernel
theorem dX8_remove_63 : decode cX8_remove 63 = .ok (.invokevirtual 119, 3) := by decide +kernel
theorem dX8_remove_66 : decode cX8_remove 66 = .ok (.invokevirtual 112, 3) := by decide +kernel
theorem dX8_remove_69 : decode cX8_remove 69 = .ok (.pop, 1) := by decide +kernel
theorem dX8_remove_70 : decode cX8_remove 70 = .ok (.iload 4, 2) := by decide +kernel
theorem dX8_remove_72 : decode cX8_remove 72 = .ok (.ireturn, 1) := by decide +kernel
set_option maxRecDepth 20000 in
theorem ggX8_get_X8_isMap : GoodIn wsX8_get wsX8_isMap := goodIn_r _ [7, 8, 9, 6, 10] (by decide +kernel) (by decide +kernel)
set_option maxRecDepth 20000 in
theorem gX8_get_X8_isMap : GoodIn wsX8_get (va_wsS RX8 75 yX8_isMap wsX8_isMap) := goodIn_app (goodIn_of _ (by decide +kernel)) ggX8_get_X8_isMap
set_option maxRecDepth 20000 in
theorem ggX8_get_X8_isKey : GoodIn wsX8_get wsX8_isKey := goodIn_r _ [13, 8, 9, 6, 10] (by decide +kernel) (by decide +kernel)
set_option maxRecDepth 20000 in
theorem gX8_get_X8_isKey : GoodIn wsX8_get (va_wsS RX8 79 yX8_isKey wsX8_isKey) := goodIn_app (goodIn_of _ (by decide +kernel)) ggX8_get_X8_isKey
set_option maxRecDepth 20000 in
theorem ggX8_get_X8_bad : GoodIn wsX8_get wsX8_bad := goodIn_r _ [17, 18, 19, 27, 28, 29, 30, 31, 32, 33, 34, 35, 36, 37, 38, 39, 40] (by decide +kernel) (by decide +kernel)
set_option maxRecDepth 20000 in
theorem gX8_get_X8_bad : GoodIn wsX8_get (wsV RX8 85 RX8 yX8_bad wsX8_bad) := goodIn_app (goodIn_of _ (by decide +kernel)) ggX8_get_X8_bad
set_option maxRecDepth 20000 in
theorem ggX8_get_X3_find : GoodIn wsX8_get wsX3_find := goodIn_r _ [23, 24, 25, 26, 41, 42, 43, 44, 45, 46, 47, 48, 49] (by decide +kernel) (by decide +kernel)
set_option maxRecDepth 20000 in
theorem gX8_get_X3_find : GoodIn wsX8_get (va_wsS RX8 89 yX3_find wsX3_find) := goodIn_app (goodIn_of _ (by decide +kernel)) ggX8_get_X3_find
theorem dX8_get_0 : decode cX8_get 0 = .ok (.iload_n 1, 1) := by decide +kernel
theorem dX8_get_1 : decode cX8_get 1 = .ok (.invokestatic 75, 3) := by decide +kernel
theorem dX8_get_4 : decode cX8_get 4 = .ok (.ifCond .eq 10, 3) := by decide +kernel
theorem dX8_get_7 : decode cX8_get 7 = .ok (.iload_n 2, 1) := by decide +kernel
theorem dX8_get_8 : decode cX8_get 8 = .ok (.invokestatic 79, 3) := by decide +kernel
theorem dX8_get_11 : decode cX8_get 11 = .ok (.ifCond .ne 8, 3) := by decide +kernel
theorem dX8_get_14 : decode cX8_get 14 = .ok (.aload_n 0, 1) := by decide +kernel
theorem dX8_get_15 : decode cX8_get 15 = .ok (.invokevirtual 85, 3) := by decide +kernel
theorem dX8_get_18 : decode cX8_get 18 = .ok (.ireturn, 1) := by decide +kernel
theorem dX8_get_19 : decode cX8_get 19 = .ok (.aload_n 0, 1) := by decide +kernel
theorem dX8_get_20 : decode cX8_get 20 = .ok (.getfield 27, 3) := by decide +kernel
theorem dX8_get_23 : decode cX8_get 23 = .ok (.iload_n 1, 1) := by decide +kernel
theorem dX8_get_24 : decode cX8_get 24 = .ok (.aaload, 1) := by decide +kernel
theorem dX8_get_25 : decode cX8_get 25 = .ok (.iload_n 2, 1) := by decide +kernel
theorem dX8_get_26 : decode cX8_get 26 = .ok (.invokestatic 89, 3) := by decide +kernel
theorem dX8_get_29 : decode cX8_get 29 = .ok (.astore_n 3, 1) := by decide +kernel
theorem dX8_get_30 : decode cX8_get 30 = .ok (.aload_n 3, 1) := by decide +kernel
theorem dX8_get_31 : decode cX8_get 31 = .ok (.ifnonnull 8, 3) := by decide +kernel
theorem dX8_get_34 : decode cX8_get 34 = .ok (.ldc 100, 2) := by decide +kernel
theorem dX8_get_36 : decode cX8_get 36 = .ok (.goto 7, 3) := by decide +kernel
theorem dX8_get_39 : decode cX8_get 39 = .ok (.aload_n 3, 1) := by decide +kernel
theorem dX8_get_40 : decode cX8_get 40 = .ok (.getfield 101, 3) := by decide +kernel
theorem dX8_get_43 : decode cX8_get 43 = .ok (.ireturn, 1) := by decide +kernel
set_option maxRecDepth 20000 in
theorem ggX8_size_X8_isMap : GoodIn wsX8_size wsX8_isMap := goodIn_r _ [5, 6, 7, 4, 8] (by decide +kernel) (by decide +kernel)
set_option maxRecDepth 20000 in
theorem gX8_size_X8_isMap : GoodIn wsX8_size (va_wsS RX8 75 yX8_isMap wsX8_isMap) := goodIn_app (goodIn_of _ (by decide +kernel)) ggX8_size_X8_isMap
set_option maxRecDepth 20000 in
theorem ggX8_size_X3_countOf : GoodIn wsX8_size wsX3_countOf := goodIn_r _ [12, 13, 34, 35, 36, 37, 38, 39, 40, 41, 42] (by decide +kernel) (by decide +kernel)
set_option maxRecDepth 20000 in
theorem gX8_size_X3_countOf : GoodIn wsX8_size (va_wsS RX8 93 yX3_countOf wsX3_countOf) := goodIn_app (goodIn_of _ (by decide +kernel)) ggX8_size_X3_countOf
set_option maxRecDepth 20000 in
theorem ggX8_size_X8_bad : GoodIn wsX8_size wsX8_bad := goodIn_r _ [17, 18, 19, 20, 21, 22, 23, 24, 25, 26, 27, 28, 29, 30, 31, 32, 33] (by decide +kernel) (by decide +kernel)
set_option maxRecDepth 20000 in
theorem gX8_size_X8_bad : GoodIn wsX8_size (wsV RX8 85 RX8 yX8_bad wsX8_bad) := goodIn_app (goodIn_of _ (by decide +kernel)) ggX8_size_X8_bad
theorem dX8_size_0 : decode cX8_size 0 = .ok (.iload_n 1, 1) := by decide +kernel
theorem dX8_size_1 : decode cX8_size 1 = .ok (.invokestatic 75, 3) := by decide +kernel
theorem dX8_size_4 : decode cX8_size 4 = .ok (.ifCond .eq 15, 3) := by decide +kernel
theorem dX8_size_7 : decode cX8_size 7 = .ok (.aload_n 0, 1) := by decide +kernel
theorem dX8_size_8 : decode cX8_size 8 = .ok (.getfield 27, 3) := by decide +kernel
theorem dX8_size_11 : decode cX8_size 11 = .ok (.iload_n 1, 1) := by decide +kernel
theorem dX8_size_12 : decode cX8_size 12 = .ok (.aaload, 1) := by decide +kernel
theorem dX8_size_13 : decode cX8_size 13 = .ok (.invokestatic 93, 3) := by decide +kernel
theorem dX8_size_16 : decode cX8_size 16 = .ok (.goto 7, 3) := by decide +kernel
theorem dX8_size_19 : decode cX8_size 19 = .ok (.aload_n 0, 1) := by decide +kernel
theorem dX8_size_20 : decode cX8_size 20 = .ok (.invokevirtual 85, 3) := by decide +kernel
theorem dX8_size_23 : decode cX8_size 23 = .ok (.ireturn, 1) := by decide +kernel
set_option maxRecDepth 20000 in
theorem ggX8_rank_X8_isMap : GoodIn wsX8_rank wsX8_isMap := goodIn_r _ [5, 6, 7, 4, 8] (by decide +kernel) (by decide +kernel)
set_option maxRecDepth 20000 in
theorem gX8_rank_X8_isMap : GoodIn wsX8_rank (va_wsS RX8 75 yX8_isMap wsX8_isMap) := goodIn_app (goodIn_of _ (by decide +kernel)) ggX8_rank_X8_isMap
set_option maxRecDepth 20000 in
theorem ggX8_rank_X8_isIn : GoodIn wsX8_rank wsX8_isIn := goodIn_r _ [8] (by decide +kernel) (by decide +kernel)
set_option maxRecDepth 20000 in
theorem gX8_rank_X8_isIn : GoodIn wsX8_rank (va_wsS RX8 122 yX8_isIn wsX8_isIn) := goodIn_app (goodIn_of _ (by decide +kernel)) ggX8_rank_X8_isIn
set_option maxRecDepth 20000 in
theorem ggX8_rank_X8_bad : GoodIn wsX8_rank wsX8_bad := goodIn_r _ [12, 13, 14, 26, 27, 28, 29, 30, 31, 32, 33, 34, 35, 36, 37, 38, 39] (by decide +kernel) (by decide +kernel)
set_option maxRecDepth 20000 in
theorem gX8_rank_X8_bad : GoodIn wsX8_rank (wsV RX8 85 RX8 yX8_bad wsX8_bad) := goodIn_app (goodIn_of _ (by decide +kernel)) ggX8_rank_X8_bad
set_option maxRecDepth 20000 in
theorem ggX8_rank_X3_countBelow : GoodIn wsX8_rank wsX3_countBelow := goodIn_r _ [18, 19, 20, 21, 22, 23, 17, 24, 25, 40, 41, 42, 43, 44, 45, 46, 47, 48] (by decide +kernel) (by decide +kernel)
set_option maxRecDepth 20000 in
theorem gX8_rank_X3_countBelow : GoodIn wsX8_rank (va_wsS RX8 126 yX3_countBelow wsX3_countBelow) := goodIn_app (goodIn_of _ (by decide +kernel)) ggX8_rank_X3_countBelow
theorem dX8_rank_0 : decode cX8_rank 0 = .ok (.iload_n 1, 1) := by decide +kernel
theorem dX8_rank_1 : decode cX8_rank 1 = .ok (.invokestatic 75, 3) := by decide +kernel
theorem dX8_rank_4 : decode cX8_rank 4 = .ok (.ifCond .eq 16, 3) := by decide +kernel
theorem dX8_rank_7 : decode cX8_rank 7 = .ok (.iload_n 2, 1) := by decide +kernel
theorem dX8_rank_8 : decode cX8_rank 8 = .ok (.sipush (-501), 3) := by decide +kernel
theorem dX8_rank_11 : decode cX8_rank 11 = .ok (.sipush 501, 3) := by decide +kernel
theorem dX8_rank_14 : decode cX8_rank 14 = .ok (.invokestatic 122, 3) := by decide +kernel
theorem dX8_rank_17 : decode cX8_rank 17 = .ok (.ifCond .ne 8, 3) := by decide +kernel
theorem dX8_rank_20 : decode cX8_rank 20 = .ok (.aload_n 0, 1) := by decide +kernel
theorem dX8_rank_21 : decode cX8_rank 21 = .ok (.invokevirtual 85, 3) := by decide +kernel
theorem dX8_rank_24 : decode cX8_rank 24 = .ok (.ireturn, 1) := by decide +kernel
theorem dX8_rank_25 : decode cX8_rank 25 = .ok (.aload_n 0, 1) := by decide +kernel
theorem dX8_rank_26 : decode cX8_rank 26 = .ok (.getfield 27, 3) := by decide +kernel
theorem dX8_rank_29 : decode cX8_rank 29 = .ok (.iload_n 1, 1) := by decide +kernel
theorem dX8_rank_30 : decode cX8_rank 30 = .ok (.aaload, 1) := by decide +kernel
theorem dX8_rank_31 : decode cX8_rank 31 = .ok (.iload_n 2, 1) := by decide +kernel
theorem dX8_rank_32 : decode cX8_rank 32 = .ok (.invokestatic 126, 3) := by decide +kernel
theorem dX8_rank_35 : decode cX8_rank 35 = .ok (.ireturn, 1) := by decide +kernel
set_option maxRecDepth 20000 in
theorem ggX8_nth_X8_isMap : GoodIn wsX8_nth wsX8_isMap := goodIn_r _ [5, 6, 7, 4, 8] (by decide +kernel) (by decide +kernel)
set_option maxRecDepth 20000 in
theorem gX8_nth_X8_isMap : GoodIn wsX8_nth (va_wsS RX8 75 yX8_isMap wsX8_isMap) := goodIn_app (goodIn_of _ (by decide +kernel)) ggX8_nth_X8_isMap
set_option maxRecDepth 20000 in
theorem ggX8_nth_X8_bad : GoodIn wsX8_nth wsX8_bad := goodIn_r _ [12, 13, 14, 27, 28, 29, 30, 31, 32, 33, 34, 35, 36, 37, 38, 39, 40] (by decide +kernel) (by decide +kernel)
set_option maxRecDepth 20000 in
theorem gX8_nth_X8_bad : GoodIn wsX8_nth (wsV RX8 85 RX8 yX8_bad wsX8_bad) := goodIn_app (goodIn_of _ (by decide +kernel)) ggX8_nth_X8_bad
set_option maxRecDepth 20000 in
theorem ggX8_nth_X3_keyAt : GoodIn wsX8_nth wsX3_keyAt := goodIn_r _ [18, 19, 20, 21, 22, 23, 24, 17, 25, 26, 41, 42, 43, 44, 45, 46, 47, 48, 49] (by decide +kernel) (by decide +kernel)
set_option maxRecDepth 20000 in
theorem gX8_nth_X3_keyAt : GoodIn wsX8_nth (va_wsS RX8 130 yX3_keyAt wsX3_keyAt) := goodIn_app (goodIn_of _ (by decide +kernel)) ggX8_nth_X3_keyAt
theorem dX8_nth_0 : decode cX8_nth 0 = .ok (.iload_n 1, 1) := by decide +kernel
theorem dX8_nth_1 : decode cX8_nth 1 = .ok (.invokestatic 75, 3) := by decide +kernel
theorem dX8_nth_4 : decode cX8_nth 4 = .ok (.ifCond .eq 7, 3) := by decide +kernel
theorem dX8_nth_7 : decode cX8_nth 7 = .ok (.iload_n 2, 1) := by decide +kernel
theorem dX8_nth_8 : decode cX8_nth 8 = .ok (.ifCond .ge 8, 3) := by decide +kernel
theorem dX8_nth_11 : decode cX8_nth 11 = .ok (.aload_n 0, 1) := by decide +kernel
theorem dX8_nth_12 : decode cX8_nth 12 = .ok (.invokevirtual 85, 3) := by decide +kernel
theorem dX8_nth_15 : decode cX8_nth 15 = .ok (.ireturn, 1) := by decide +kernel
theorem dX8_nth_16 : decode cX8_nth 16 = .ok (.aload_n 0, 1) := by decide +kernel
theorem dX8_nth_17 : decode cX8_nth 17 = .ok (.getfield 27, 3) := by decide +kernel
theorem dX8_nth_20 : decode cX8_nth 20 = .ok (.iload_n 1, 1) := by decide +kernel
theorem dX8_nth_21 : decode cX8_nth 21 = .ok (.aaload, 1) := by decide +kernel
theorem dX8_nth_22 : decode cX8_nth 22 = .ok (.iload_n 2, 1) := by decide +kernel
theorem dX8_nth_23 : decode cX8_nth 23 = .ok (.invokestatic 130, 3) := by decide +kernel
theorem dX8_nth_26 : decode cX8_nth 26 = .ok (.ireturn, 1) := by decide +kernel
set_option maxRecDepth 20000 in
theorem ggX8_near_X8_isMap : GoodIn wsX8_near wsX8_isMap := goodIn_r _ [5, 6, 7, 4, 8] (by decide +kernel) (by decide +kernel)
set_option maxRecDepth 20000 in
theorem gX8_near_X8_isMap : GoodIn wsX8_near (va_wsS RX8 75 yX8_isMap wsX8_isMap) := goodIn_app (goodIn_of _ (by decide +kernel)) ggX8_near_X8_isMap
set_option maxRecDepth 20000 in
theorem ggX8_near_X8_isKey : GoodIn wsX8_near wsX8_isKey := goodIn_r _ [11, 6, 7, 4, 8] (by decide +kernel) (by decide +kernel)
set_option maxRecDepth 20000 in
theorem gX8_near_X8_isKey : GoodIn wsX8_near (va_wsS RX8 79 yX8_isKey wsX8_isKey) := goodIn_app (goodIn_of _ (by decide +kernel)) ggX8_near_X8_isKey
set_option maxRecDepth 20000 in
theorem ggX8_near_X8_bad : GoodIn wsX8_near wsX8_bad := goodIn_r _ [15, 16, 17, 33, 34, 35, 36, 37, 38, 39, 40, 41, 42, 43, 44, 45, 46] (by decide +kernel) (by decide +kernel)
set_option maxRecDepth 20000 in
theorem gX8_near_X8_bad : GoodIn wsX8_near (wsV RX8 85 RX8 yX8_bad wsX8_bad) := goodIn_app (goodIn_of _ (by decide +kernel)) ggX8_near_X8_bad
set_option maxRecDepth 20000 in
theorem ggX8_near_X3_countBelow : GoodIn wsX8_near wsX3_countBelow := goodIn_r _ [21, 22, 23, 24, 25, 26, 20, 27, 28, 47, 48, 49, 50, 51, 52, 53, 54, 55] (by decide +kernel) (by decide +kernel)
set_option maxRecDepth 20000 in
theorem gX8_near_X3_countBelow : GoodIn wsX8_near (va_wsS RX8 126 yX3_countBelow wsX3_countBelow) := goodIn_app (goodIn_of _ (by decide +kernel)) ggX8_near_X3_countBelow
set_option maxRecDepth 20000 in
theorem ggX8_near_X3_keyAt : GoodIn wsX8_near wsX3_keyAt := goodIn_r _ [31, 23, 22, 24, 32, 25, 26, 20, 27, 28, 47, 48, 49, 50, 51, 52, 53, 54, 55] (by decide +kernel) (by decide +kernel)
set_option maxRecDepth 20000 in
theorem gX8_near_X3_keyAt : GoodIn wsX8_near (va_wsS RX8 130 yX3_keyAt wsX3_keyAt) := goodIn_app (goodIn_of _ (by decide +kernel)) ggX8_near_X3_keyAt
theorem dX8_near_0 : decode cX8_near 0 = .ok (.iload_n 1, 1) := by decide +kernel
theorem dX8_near_1 : decode cX8_near 1 = .ok (.invokestatic 75, 3) := by decide +kernel
theorem dX8_near_4 : decode cX8_near 4 = .ok (.ifCond .eq 20, 3) := by decide +kernel
theorem dX8_near_7 : decode cX8_near 7 = .ok (.iload_n 2, 1) := by decide +kernel
theorem dX8_near_8 : decode cX8_near 8 = .ok (.invokestatic 79, 3) := by decide +kernel
theorem dX8_near_11 : decode cX8_near 11 = .ok (.ifCond .eq 13, 3) := by decide +kernel
theorem dX8_near_14 : decode cX8_near 14 = .ok (.iload_n 3, 1) := by decide +kernel
theorem dX8_near_15 : decode cX8_near 15 = .ok (.iconst (-1), 1) := by decide +kernel
theorem dX8_near_16 : decode cX8_near 16 = .ok (.if_icmp .eq 13, 3) := by decide +kernel
theorem dX8_near_19 : decode cX8_near 19 = .ok (.iload_n 3, 1) := by decide +kernel
theorem dX8_near_20 : decode cX8_near 20 = .ok (.iconst 1, 1) := by decide +kernel
theorem dX8_near_21 : decode cX8_near 21 = .ok (.if_icmp .eq 8, 3) := by decide +kernel
theorem dX8_near_24 : decode cX8_near 24 = .ok (.aload_n 0, 1) := by decide +kernel
theorem dX8_near_25 : decode cX8_near 25 = .ok (.invokevirtual 85, 3) := by decide +kernel
theorem dX8_near_28 : decode cX8_near 28 = .ok (.ireturn, 1) := by decide +kernel
theorem dX8_near_29 : decode cX8_near 29 = .ok (.iload_n 3, 1) := by decide +kernel
theorem dX8_near_30 : decode cX8_near 30 = .ok (.iconst 1, 1) := by decide +kernel
theorem dX8_near_31 : decode cX8_near 31 = .ok (.if_icmp .ne 16, 3) := by decide +kernel
theorem dX8_near_34 : decode cX8_near 34 = .ok (.aload_n 0, 1) := by decide +kernel
theorem dX8_near_35 : decode cX8_near 35 = .ok (.getfield 27, 3) := by decide +kernel
theorem dX8_near_38 : decode cX8_near 38 = .ok (.iload_n 1, 1) := by decide +kernel
theorem dX8_near_39 : decode cX8_near 39 = .ok (.aaload, 1) := by decide +kernel
theorem dX8_near_40 : decode cX8_near 40 = .ok (.iload_n 2, 1) := by decide +kernel
theorem dX8_near_41 : decode cX8_near 41 = .ok (.invokestatic 126, 3) := by decide +kernel
theorem dX8_near_44 : decode cX8_near 44 = .ok (.goto 17, 3) := by decide +kernel
theorem dX8_near_47 : decode cX8_near 47 = .ok (.aload_n 0, 1) := by decide +kernel
theorem dX8_near_48 : decode cX8_near 48 = .ok (.getfield 27, 3) := by decide +kernel
theorem dX8_near_51 : decode cX8_near 51 = .ok (.iload_n 1, 1) := by decide +kernel
theorem dX8_near_52 : decode cX8_near 52 = .ok (.aaload, 1) := by decide +kernel
theorem dX8_near_53 : decode cX8_near 53 = .ok (.iload_n 2, 1) := by decide +kernel
theorem dX8_near_54 : decode cX8_near 54 = .ok (.iconst 1, 1) := by decide +kernel
theorem dX8_near_55 : decode cX8_near 55 = .ok (.iadd, 1) := by decide +kernel
theorem dX8_near_56 : decode cX8_near 56 = .ok (.invokestatic 126, 3) := by decide +kernel
theorem dX8_near_59 : decode cX8_near 59 = .ok (.iconst 1, 1) := by decide +kernel
theorem dX8_near_60 : decode cX8_near 60 = .ok (.isub, 1) := by decide +kernel
theorem dX8_near_61 : decode cX8_near 61 = .ok (.istore 4, 2) := by decide +kernel
theorem dX8_near_63 : decode cX8_near 63 = .ok (.aload_n 0, 1) := by decide +kernel
theorem dX8_near_64 : decode cX8_near 64 = .ok (.getfield 27, 3) := by decide +kernel
theorem dX8_near_67 : decode cX8_near 67 = .ok (.iload_n 1, 1) := by decide +kernel
theorem dX8_near_68 : decode cX8_near 68 = .ok (.aaload, 1) := by decide +kernel
theorem dX8_near_69 : decode cX8_near 69 = .ok (.iload 4, 2) := by decide +kernel
theorem dX8_near_71 : decode cX8_near 71 = .ok (.invokestatic 130, 3) := by decide +kernel
theorem dX8_near_74 : decode cX8_near 74 = .ok (.ireturn, 1) := by decide +kernel
set_option maxRecDepth 20000 in
theorem ggX8_within_X8_isMap : GoodIn wsX8_within wsX8_isMap := goodIn_r _ [5, 6, 7, 4, 8] (by decide +kernel) (by decide +kernel)
set_option maxRecDepth 20000 in
theorem gX8_within_X8_isMap : GoodIn wsX8_within (va_wsS RX8 75 yX8_isMap wsX8_isMap) := goodIn_app (goodIn_of _ (by decide +kernel)) ggX8_within_X8_isMap
set_option maxRecDepth 20000 in
theorem ggX8_within_X8_isRange : GoodIn wsX8_within wsX8_isRange := goodIn_r _ [11, 12, 13, 4, 14, 6, 7, 8] (by decide +kernel) (by decide +kernel)
set_option maxRecDepth 20000 in
theorem gX8_within_X8_isRange : GoodIn wsX8_within (va_wsS RX8 133 yX8_isRange wsX8_isRange) := goodIn_app (goodIn_of _ (by decide +kernel)) ggX8_within_X8_isRange
set_option maxRecDepth 20000 in
theorem ggX8_within_X3_countWithin : GoodIn wsX8_within wsX3_countWithin := goodIn_r _ [18, 19, 20, 17, 21, 22, 23, 24, 25, 26, 27, 28, 49, 50, 51, 52, 53, 54, 55, 56, 57] (by decide +kernel) (by decide +kernel)
set_option maxRecDepth 20000 in
theorem gX8_within_X3_countWithin : GoodIn wsX8_within (va_wsS RX8 137 yX3_countWithin wsX3_countWithin) := goodIn_app (goodIn_of _ (by decide +kernel)) ggX8_within_X3_countWithin
set_option maxRecDepth 20000 in
theorem ggX8_within_X8_bad : GoodIn wsX8_within wsX8_bad := goodIn_r _ [32, 33, 34, 35, 36, 37, 38, 39, 40, 41, 42, 43, 44, 45, 46, 47, 48] (by decide +kernel) (by decide +kernel)
set_option maxRecDepth 20000 in
theorem gX8_within_X8_bad : GoodIn wsX8_within (wsV RX8 85 RX8 yX8_bad wsX8_bad) := goodIn_app (goodIn_of _ (by decide +kernel)) ggX8_within_X8_bad
theorem dX8_within_0 : decode cX8_within 0 = .ok (.iload_n 1, 1) := by decide +kernel
theorem dX8_within_1 : decode cX8_within 1 = .ok (.invokestatic 75, 3) := by decide +kernel
theorem dX8_within_4 : decode cX8_within 4 = .ok (.ifCond .eq 25, 3) := by decide +kernel
theorem dX8_within_7 : decode cX8_within 7 = .ok (.iload_n 2, 1) := by decide +kernel
theorem dX8_within_8 : decode cX8_within 8 = .ok (.iload_n 3, 1) := by decide +kernel
theorem dX8_within_9 : decode cX8_within 9 = .ok (.invokestatic 133, 3) := by decide +kernel
theorem dX8_within_12 : decode cX8_within 12 = .ok (.ifCond .eq 17, 3) := by decide +kernel
theorem dX8_within_15 : decode cX8_within 15 = .ok (.aload_n 0, 1) := by decide +kernel
theorem dX8_within_16 : decode cX8_within 16 = .ok (.getfield 27, 3) := by decide +kernel
theorem dX8_within_19 : decode cX8_within 19 = .ok (.iload_n 1, 1) := by decide +kernel
theorem dX8_within_20 : decode cX8_within 20 = .ok (.aaload, 1) := by decide +kernel
theorem dX8_within_21 : decode cX8_within 21 = .ok (.iload_n 2, 1) := by decide +kernel
theorem dX8_within_22 : decode cX8_within 22 = .ok (.iload_n 3, 1) := by decide +kernel
theorem dX8_within_23 : decode cX8_within 23 = .ok (.invokestatic 137, 3) := by decide +kernel
theorem dX8_within_26 : decode cX8_within 26 = .ok (.goto 7, 3) := by decide +kernel
theorem dX8_within_29 : decode cX8_within 29 = .ok (.aload_n 0, 1) := by decide +kernel
theorem dX8_within_30 : decode cX8_within 30 = .ok (.invokevirtual 85, 3) := by decide +kernel
theorem dX8_within_33 : decode cX8_within 33 = .ok (.ireturn, 1) := by decide +kernel
set_option maxRecDepth 20000 in
theorem ggX8_sum_X8_isMap : GoodIn wsX8_sum wsX8_isMap := goodIn_r _ [5, 6, 7, 4, 8] (by decide +kernel) (by decide +kernel)
set_option maxRecDepth 20000 in
theorem gX8_sum_X8_isMap : GoodIn wsX8_sum (va_wsS RX8 75 yX8_isMap wsX8_isMap) := goodIn_app (goodIn_of _ (by decide +kernel)) ggX8_sum_X8_isMap
set_option maxRecDepth 20000 in
theorem ggX8_sum_X8_isRange : GoodIn wsX8_sum wsX8_isRange := goodIn_r _ [11, 12, 13, 4, 14, 6, 7, 8] (by decide +kernel) (by decide +kernel)
set_option maxRecDepth 20000 in
theorem gX8_sum_X8_isRange : GoodIn wsX8_sum (va_wsS RX8 133 yX8_isRange wsX8_isRange) := goodIn_app (goodIn_of _ (by decide +kernel)) ggX8_sum_X8_isRange
set_option maxRecDepth 20000 in
theorem ggX8_sum_X8_bad : GoodIn wsX8_sum wsX8_bad := goodIn_r _ [18, 19, 20, 33, 34, 35, 36, 37, 38, 39, 40, 41, 42, 43, 44, 45, 46] (by decide +kernel) (by decide +kernel)
set_option maxRecDepth 20000 in
theorem gX8_sum_X8_bad : GoodIn wsX8_sum (wsV RX8 85 RX8 yX8_bad wsX8_bad) := goodIn_app (goodIn_of _ (by decide +kernel)) ggX8_sum_X8_bad
set_option maxRecDepth 20000 in
theorem ggX8_sum_X3_sumBelow : GoodIn wsX8_sum wsX3_sumBelow := goodIn_r _ [24, 25, 26, 27, 28, 29, 30, 23, 31, 32, 47, 48, 49, 50, 51, 52, 53, 54, 55] (by decide +kernel) (by decide +kernel)
set_option maxRecDepth 20000 in
theorem gX8_sum_X3_sumBelow : GoodIn wsX8_sum (va_wsS RX8 141 yX3_sumBelow wsX3_sumBelow) := goodIn_app (goodIn_of _ (by decide +kernel)) ggX8_sum_X3_sumBelow
theorem dX8_sum_0 : decode cX8_sum 0 = .ok (.iload_n 1, 1) := by decide +kernel
theorem dX8_sum_1 : decode cX8_sum 1 = .ok (.invokestatic 75, 3) := by decide +kernel
theorem dX8_sum_4 : decode cX8_sum 4 = .ok (.ifCond .eq 11, 3) := by decide +kernel
theorem dX8_sum_7 : decode cX8_sum 7 = .ok (.iload_n 2, 1) := by decide +kernel
theorem dX8_sum_8 : decode cX8_sum 8 = .ok (.iload_n 3, 1) := by decide +kernel
theorem dX8_sum_9 : decode cX8_sum 9 = .ok (.invokestatic 133, 3) := by decide +kernel
theorem dX8_sum_12 : decode cX8_sum 12 = .ok (.ifCond .ne 9, 3) := by decide +kernel
theorem dX8_sum_15 : decode cX8_sum 15 = .ok (.aload_n 0, 1) := by decide +kernel
theorem dX8_sum_16 : decode cX8_sum 16 = .ok (.invokevirtual 85, 3) := by decide +kernel
theorem dX8_sum_19 : decode cX8_sum 19 = .ok (.i2l, 1) := by decide +kernel
theorem dX8_sum_20 : decode cX8_sum 20 = .ok (.lreturn, 1) := by decide +kernel
theorem dX8_sum_21 : decode cX8_sum 21 = .ok (.aload_n 0, 1) := by decide +kernel
theorem dX8_sum_22 : decode cX8_sum 22 = .ok (.getfield 27, 3) := by decide +kernel
theorem dX8_sum_25 : decode cX8_sum 25 = .ok (.iload_n 1, 1) := by decide +kernel
theorem dX8_sum_26 : decode cX8_sum 26 = .ok (.aaload, 1) := by decide +kernel
theorem dX8_sum_27 : decode cX8_sum 27 = .ok (.iload_n 3, 1) := by decide +kernel
theorem dX8_sum_28 : decode cX8_sum 28 = .ok (.iconst 1, 1) := by decide +kernel
theorem dX8_sum_29 : decode cX8_sum 29 = .ok (.iadd, 1) := by decide +kernel
theorem dX8_sum_30 : decode cX8_sum 30 = .ok (.invokestatic 141, 3) := by decide +kernel
theorem dX8_sum_33 : decode cX8_sum 33 = .ok (.aload_n 0, 1) := by decide +kernel
theorem dX8_sum_34 : decode cX8_sum 34 = .ok (.getfield 27, 3) := by decide +kernel
theorem dX8_sum_37 : decode cX8_sum 37 = .ok (.iload_n 1, 1) := by decide +kernel
theorem dX8_sum_38 : decode cX8_sum 38 = .ok (.aaload, 1) := by decide +kernel
theorem dX8_sum_39 : decode cX8_sum 39 = .ok (.iload_n 2, 1) := by decide +kernel
theorem dX8_sum_40 : decode cX8_sum 40 = .ok (.invokestatic 141, 3) := by decide +kernel
theorem dX8_sum_43 : decode cX8_sum 43 = .ok (.lsub, 1) := by decide +kernel
theorem dX8_sum_44 : decode cX8_sum 44 = .ok (.lreturn, 1) := by decide +kernel
set_option maxRecDepth 20000 in
theorem ggX8_most_X8_isMap : GoodIn wsX8_most wsX8_isMap := goodIn_r _ [7, 8, 9, 6, 10] (by decide +kernel) (by decide +kernel)
set_option maxRecDepth 20000 in
theorem gX8_most_X8_isMap : GoodIn wsX8_most (va_wsS RX8 75 yX8_isMap wsX8_isMap) := goodIn_app (goodIn_of _ (by decide +kernel)) ggX8_most_X8_isMap
set_option maxRecDepth 20000 in
theorem ggX8_most_X8_isRange : GoodIn wsX8_most wsX8_isRange := goodIn_r _ [13, 14, 15, 6, 16, 8, 9, 10] (by decide +kernel) (by decide +kernel)
set_option maxRecDepth 20000 in
theorem gX8_most_X8_isRange : GoodIn wsX8_most (va_wsS RX8 133 yX8_isRange wsX8_isRange) := goodIn_app (goodIn_of _ (by decide +kernel)) ggX8_most_X8_isRange
set_option maxRecDepth 20000 in
theorem ggX8_most_X8_isIn : GoodIn wsX8_most wsX8_isIn := goodIn_r _ [10] (by decide +kernel) (by decide +kernel)
set_option maxRecDepth 20000 in
theorem gX8_most_X8_isIn : GoodIn wsX8_most (va_wsS RX8 122 yX8_isIn wsX8_isIn) := goodIn_app (goodIn_of _ (by decide +kernel)) ggX8_most_X8_isIn
set_option maxRecDepth 20000 in
theorem ggX8_most_X8_bad : GoodIn wsX8_most wsX8_bad := goodIn_r _ [20, 21, 22, 59, 60, 61, 62, 63, 64, 65, 66, 67, 68, 69, 70, 71, 72] (by decide +kernel) (by decide +kernel)
set_option maxRecDepth 20000 in
theorem gX8_most_X8_bad : GoodIn wsX8_most (wsV RX8 85 RX8 yX8_bad wsX8_bad) := goodIn_app (goodIn_of _ (by decide +kernel)) ggX8_most_X8_bad
set_option maxRecDepth 20000 in
theorem ggX8_most_X3_countBelow : GoodIn wsX8_most wsX3_countBelow := goodIn_r _ [26, 27, 28, 29, 30, 31, 25, 32, 33, 73, 74, 75, 76, 77, 78, 79, 80, 81] (by decide +kernel) (by decide +kernel)
set_option maxRecDepth 20000 in
theorem gX8_most_X3_countBelow : GoodIn wsX8_most (va_wsS RX8 126 yX3_countBelow wsX3_countBelow) := goodIn_app (goodIn_of _ (by decide +kernel)) ggX8_most_X3_countBelow
set_option maxRecDepth 20000 in
theorem ggX8_most_X6_take : GoodIn wsX8_most wsX6_take := goodIn_r _ [38, 39, 40, 41, 42, 37, 43, 44, 45, 46, 47, 48, 49, 50, 51, 52, 53, 82, 83, 84, 73, 74, 75, 76, 77, 78, 79, 80, 81] (by decide +kernel) (by decide +kernel)
set_option maxRecDepth 20000 in
theorem gX8_most_X6_take : GoodIn wsX8_most (wsV RX8 145 RX6 yX6_take wsX6_take) := goodIn_app (goodIn_of _ (by decide +kernel)) ggX8_most_X6_take
set_option maxRecDepth 20000 in
theorem ggX8_most_X6_valueAt : GoodIn wsX8_most wsX6_valueAt := goodIn_r _ [57, 39, 53, 58, 9, 6, 10, 82, 83, 84] (by decide +kernel) (by decide +kernel)
set_option maxRecDepth 20000 in
theorem gX8_most_X6_valueAt : GoodIn wsX8_most (wsV RX8 149 RX6 yX6_valueAt wsX6_valueAt) := goodIn_app (goodIn_of _ (by decide +kernel)) ggX8_most_X6_valueAt
theorem dX8_most_0 : decode cX8_most 0 = .ok (.iload_n 1, 1) := by decide +kernel
theorem dX8_most_1 : decode cX8_most 1 = .ok (.invokestatic 75, 3) := by decide +kernel
theorem dX8_most_4 : decode cX8_most 4 = .ok (.ifCond .eq 21, 3) := by decide +kernel
theorem dX8_most_7 : decode cX8_most 7 = .ok (.iload_n 2, 1) := by decide +kernel
theorem dX8_most_8 : decode cX8_most 8 = .ok (.iload_n 3, 1) := by decide +kernel
theorem dX8_most_9 : decode cX8_most 9 = .ok (.invokestatic 133, 3) := by decide +kernel
theorem dX8_most_12 : decode cX8_most 12 = .ok (.ifCond .eq 13, 3) := by decide +kernel
theorem dX8_most_15 : decode cX8_most 15 = .ok (.iload 4, 2) := by decide +kernel
theorem dX8_most_17 : decode cX8_most 17 = .ok (.iconst 0, 1) := by decide +kernel
theorem dX8_most_18 : decode cX8_most 18 = .ok (.iconst 1, 1) := by decide +kernel
theorem dX8_most_19 : decode cX8_most 19 = .ok (.invokestatic 122, 3) := by decide +kernel
theorem dX8_most_22 : decode cX8_most 22 = .ok (.ifCond .ne 8, 3) := by decide +kernel
theorem dX8_most_25 : decode cX8_most 25 = .ok (.aload_n 0, 1) := by decide +kernel
theorem dX8_most_26 : decode cX8_most 26 = .ok (.invokevirtual 85, 3) := by decide +kernel
theorem dX8_most_29 : decode cX8_most 29 = .ok (.ireturn, 1) := by decide +kernel
theorem dX8_most_30 : decode cX8_most 30 = .ok (.aload_n 0, 1) := by decide +kernel
theorem dX8_most_31 : decode cX8_most 31 = .ok (.getfield 27, 3) := by decide +kernel
theorem dX8_most_34 : decode cX8_most 34 = .ok (.iload_n 1, 1) := by decide +kernel
theorem dX8_most_35 : decode cX8_most 35 = .ok (.aaload, 1) := by decide +kernel
theorem dX8_most_36 : decode cX8_most 36 = .ok (.iload_n 3, 1) := by decide +kernel
theorem dX8_most_37 : decode cX8_most 37 = .ok (.iconst 1, 1) := by decide +kernel
theorem dX8_most_38 : decode cX8_most 38 = .ok (.iadd, 1) := by decide +kernel
theorem dX8_most_39 : decode cX8_most 39 = .ok (.invokestatic 126, 3) := by decide +kernel
theorem dX8_most_42 : decode cX8_most 42 = .ok (.istore 5, 2) := by decide +kernel
theorem dX8_most_44 : decode cX8_most 44 = .ok (.ldc 100, 2) := by decide +kernel
theorem dX8_most_46 : decode cX8_most 46 = .ok (.istore 6, 2) := by decide +kernel
theorem dX8_most_48 : decode cX8_most 48 = .ok (.aload_n 0, 1) := by decide +kernel
theorem dX8_most_49 : decode cX8_most 49 = .ok (.getfield 68, 3) := by decide +kernel
theorem dX8_most_52 : decode cX8_most 52 = .ok (.aload_n 0, 1) := by decide +kernel
theorem dX8_most_53 : decode cX8_most 53 = .ok (.getfield 27, 3) := by decide +kernel
theorem dX8_most_56 : decode cX8_most 56 = .ok (.iload_n 1, 1) := by decide +kernel
theorem dX8_most_57 : decode cX8_most 57 = .ok (.aaload, 1) := by decide +kernel
theorem dX8_most_58 : decode cX8_most 58 = .ok (.invokevirtual 145, 3) := by decide +kernel
theorem dX8_most_61 : decode cX8_most 61 = .ok (.aload_n 0, 1) := by decide +kernel
theorem dX8_most_62 : decode cX8_most 62 = .ok (.getfield 27, 3) := by decide +kernel
theorem dX8_most_65 : decode cX8_most 65 = .ok (.iload_n 1, 1) := by decide +kernel
theorem dX8_most_66 : decode cX8_most 66 = .ok (.aaload, 1) := by decide +kernel
theorem dX8_most_67 : decode cX8_most 67 = .ok (.iload_n 2, 1) := by decide +kernel
theorem dX8_most_68 : decode cX8_most 68 = .ok (.invokestatic 126, 3) := by decide +kernel
theorem dX8_most_71 : decode cX8_most 71 = .ok (.istore 7, 2) := by decide +kernel
theorem dX8_most_73 : decode cX8_most 73 = .ok (.iload 7, 2) := by decide +kernel
theorem dX8_most_75 : decode cX8_most 75 = .ok (.iload 5, 2) := by decide +kernel
theorem dX8_most_77 : decode cX8_most 77 = .ok (.if_icmp .ge 53, 3) := by decide +kernel
theorem dX8_most_80 : decode cX8_most 80 = .ok (.aload_n 0, 1) := by decide +kernel
theorem dX8_most_81 : decode cX8_most 81 = .ok (.getfield 68, 3) := by decide +kernel
theorem dX8_most_84 : decode cX8_most 84 = .ok (.iload 7, 2) := by decide +kernel
theorem dX8_most_86 : decode cX8_most 86 = .ok (.invokevirtual 149, 3) := by decide +kernel
theorem dX8_most_89 : decode cX8_most 89 = .ok (.istore 8, 2) := by decide +kernel
theorem dX8_most_91 : decode cX8_most 91 = .ok (.iload 6, 2) := by decide +kernel
theorem dX8_most_93 : decode cX8_most 93 = .ok (.ldc 100, 2) := by decide +kernel
theorem dX8_most_95 : decode cX8_most 95 = .ok (.if_icmp .eq 25, 3) := by decide +kernel
theorem dX8_most_98 : decode cX8_most 98 = .ok (.iload 4, 2) := by decide +kernel
theorem dX8_most_100 : decode cX8_most 100 = .ok (.ifCond .ne 13, 3) := by decide +kernel
theorem dX8_most_103 : decode cX8_most 103 = .ok (.iload 8, 2) := by decide +kernel
theorem dX8_most_105 : decode cX8_most 105 = .ok (.iload 6, 2) := by decide +kernel
theorem dX8_most_107 : decode cX8_most 107 = .ok (.if_icmp .le 17, 3) := by decide +kernel
theorem dX8_most_110 : decode cX8_most 110 = .ok (.goto 10, 3) := by decide +kernel
theorem dX8_most_113 : decode cX8_most 113 = .ok (.iload 8, 2) := by decide +kernel
theorem dX8_most_115 : decode cX8_most 115 = .ok (.iload 6, 2) := by decide +kernel
theorem dX8_most_117 : decode cX8_most 117 = .ok (.if_icmp .ge 7, 3) := by decide +kernel
theorem dX8_most_120 : decode cX8_most 120 = .ok (.iload 8, 2) := by decide +kernel
theorem dX8_most_122 : decode cX8_most 122 = .ok (.istore 6, 2) := by decide +kernel
theorem dX8_most_124 : decode cX8_most 124 = .ok (.iinc 7 1, 3) := by decide +kernel
theorem dX8_most_127 : decode cX8_most 127 = .ok (.goto (-54), 3) := by decide +kernel
theorem dX8_most_130 : decode cX8_most 130 = .ok (.iload 6, 2) := by decide +kernel
theorem dX8_most_132 : decode cX8_most 132 = .ok (.ireturn, 1) := by decide +kernel
set_option maxRecDepth 20000 in
theorem ggX8_middle_X8_isMap : GoodIn wsX8_middle wsX8_isMap := goodIn_r _ [6, 7, 8, 5, 9] (by decide +kernel) (by decide +kernel)
set_option maxRecDepth 20000 in
theorem gX8_middle_X8_isMap : GoodIn wsX8_middle (va_wsS RX8 75 yX8_isMap wsX8_isMap) := goodIn_app (goodIn_of _ (by decide +kernel)) ggX8_middle_X8_isMap
set_option maxRecDepth 20000 in
theorem ggX8_middle_X8_isRange : GoodIn wsX8_middle wsX8_isRange := goodIn_r _ [12, 13, 14, 5, 15, 7, 8, 9] (by decide +kernel) (by decide +kernel)
set_option maxRecDepth 20000 in
theorem gX8_middle_X8_isRange : GoodIn wsX8_middle (va_wsS RX8 133 yX8_isRange wsX8_isRange) := goodIn_app (goodIn_of _ (by decide +kernel)) ggX8_middle_X8_isRange
set_option maxRecDepth 20000 in
theorem ggX8_middle_X8_bad : GoodIn wsX8_middle wsX8_bad := goodIn_r _ [19, 20, 21, 41, 42, 43, 44, 45, 46, 47, 48, 49, 50, 51, 52, 53, 54] (by decide +kernel) (by decide +kernel)
set_option maxRecDepth 20000 in
theorem gX8_middle_X8_bad : GoodIn wsX8_middle (wsV RX8 85 RX8 yX8_bad wsX8_bad) := goodIn_app (goodIn_of _ (by decide +kernel)) ggX8_middle_X8_bad
set_option maxRecDepth 20000 in
theorem ggX8_middle_X3_countWithin : GoodIn wsX8_middle wsX3_countWithin := goodIn_r _ [25, 26, 27, 24, 28, 29, 30, 31, 32, 33, 34, 35, 55, 56, 57, 58, 59, 60, 61, 62, 63] (by decide +kernel) (by decide +kernel)
set_option maxRecDepth 20000 in
theorem gX8_middle_X3_countWithin : GoodIn wsX8_middle (va_wsS RX8 137 yX3_countWithin wsX3_countWithin) := goodIn_app (goodIn_of _ (by decide +kernel)) ggX8_middle_X3_countWithin
set_option maxRecDepth 20000 in
theorem ggX8_middle_X3_countBelow : GoodIn wsX8_middle wsX3_countBelow := goodIn_r _ [28, 29, 30, 31, 32, 33, 24, 34, 35, 55, 56, 57, 58, 59, 60, 61, 62, 63] (by decide +kernel) (by decide +kernel)
set_option maxRecDepth 20000 in
theorem gX8_middle_X3_countBelow : GoodIn wsX8_middle (va_wsS RX8 126 yX3_countBelow wsX3_countBelow) := goodIn_app (goodIn_of _ (by decide +kernel)) ggX8_middle_X3_countBelow
set_option maxRecDepth 20000 in
theorem ggX8_middle_X3_keyAt : GoodIn wsX8_middle wsX3_keyAt := goodIn_r _ [39, 30, 29, 31, 40, 32, 33, 24, 34, 35, 55, 56, 57, 58, 59, 60, 61, 62, 63] (by decide +kernel) (by decide +kernel)
set_option maxRecDepth 20000 in
theorem gX8_middle_X3_keyAt : GoodIn wsX8_middle (va_wsS RX8 130 yX3_keyAt wsX3_keyAt) := goodIn_app (goodIn_of _ (by decide +kernel)) ggX8_middle_X3_keyAt
theorem dX8_middle_0 : decode cX8_middle 0 = .ok (.iload_n 1, 1) := by decide +kernel
theorem dX8_middle_1 : decode cX8_middle 1 = .ok (.invokestatic 75, 3) := by decide +kernel
theorem dX8_middle_4 : decode cX8_middle 4 = .ok (.ifCond .eq 11, 3) := by decide +kernel
theorem dX8_middle_7 : decode cX8_middle 7 = .ok (.iload_n 2, 1) := by decide +kernel
theorem dX8_middle_8 : decode cX8_middle 8 = .ok (.iload_n 3, 1) := by decide +kernel
theorem dX8_middle_9 : decode cX8_middle 9 = .ok (.invokestatic 133, 3) := by decide +kernel
theorem dX8_middle_12 : decode cX8_middle 12 = .ok (.ifCond .ne 8, 3) := by decide +kernel
theorem dX8_middle_15 : decode cX8_middle 15 = .ok (.aload_n 0, 1) := by decide +kernel
theorem dX8_middle_16 : decode cX8_middle 16 = .ok (.invokevirtual 85, 3) := by decide +kernel
theorem dX8_middle_19 : decode cX8_middle 19 = .ok (.ireturn, 1) := by decide +kernel
theorem dX8_middle_20 : decode cX8_middle 20 = .ok (.aload_n 0, 1) := by decide +kernel
theorem dX8_middle_21 : decode cX8_middle 21 = .ok (.getfield 27, 3) := by decide +kernel
theorem dX8_middle_24 : decode cX8_middle 24 = .ok (.iload_n 1, 1) := by decide +kernel
theorem dX8_middle_25 : decode cX8_middle 25 = .ok (.aaload, 1) := by decide +kernel
theorem dX8_middle_26 : decode cX8_middle 26 = .ok (.iload_n 2, 1) := by decide +kernel
theorem dX8_middle_27 : decode cX8_middle 27 = .ok (.iload_n 3, 1) := by decide +kernel
theorem dX8_middle_28 : decode cX8_middle 28 = .ok (.invokestatic 137, 3) := by decide +kernel
theorem dX8_middle_31 : decode cX8_middle 31 = .ok (.istore 4, 2) := by decide +kernel
theorem dX8_middle_33 : decode cX8_middle 33 = .ok (.iload 4, 2) := by decide +kernel
theorem dX8_middle_35 : decode cX8_middle 35 = .ok (.ifCond .ne 8, 3) := by decide +kernel
theorem dX8_middle_38 : decode cX8_middle 38 = .ok (.ldc 100, 2) := by decide +kernel
theorem dX8_middle_40 : decode cX8_middle 40 = .ok (.goto 29, 3) := by decide +kernel
theorem dX8_middle_43 : decode cX8_middle 43 = .ok (.aload_n 0, 1) := by decide +kernel
theorem dX8_middle_44 : decode cX8_middle 44 = .ok (.getfield 27, 3) := by decide +kernel
theorem dX8_middle_47 : decode cX8_middle 47 = .ok (.iload_n 1, 1) := by decide +kernel
theorem dX8_middle_48 : decode cX8_middle 48 = .ok (.aaload, 1) := by decide +kernel
theorem dX8_middle_49 : decode cX8_middle 49 = .ok (.aload_n 0, 1) := by decide +kernel
theorem dX8_middle_50 : decode cX8_middle 50 = .ok (.getfield 27, 3) := by decide +kernel
theorem dX8_middle_53 : decode cX8_middle 53 = .ok (.iload_n 1, 1) := by decide +kernel
theorem dX8_middle_54 : decode cX8_middle 54 = .ok (.aaload, 1) := by decide +kernel
theorem dX8_middle_55 : decode cX8_middle 55 = .ok (.iload_n 2, 1) := by decide +kernel
theorem dX8_middle_56 : decode cX8_middle 56 = .ok (.invokestatic 126, 3) := by decide +kernel
theorem dX8_middle_59 : decode cX8_middle 59 = .ok (.iload 4, 2) := by decide +kernel
theorem dX8_middle_61 : decode cX8_middle 61 = .ok (.iconst 1, 1) := by decide +kernel
theorem dX8_middle_62 : decode cX8_middle 62 = .ok (.isub, 1) := by decide +kernel
theorem dX8_middle_63 : decode cX8_middle 63 = .ok (.iconst 2, 1) := by decide +kernel
theorem dX8_middle_64 : decode cX8_middle 64 = .ok (.idiv, 1) := by decide +kernel
theorem dX8_middle_65 : decode cX8_middle 65 = .ok (.iadd, 1) := by decide +kernel
theorem dX8_middle_66 : decode cX8_middle 66 = .ok (.invokestatic 130, 3) := by decide +kernel
theorem dX8_middle_69 : decode cX8_middle 69 = .ok (.ireturn, 1) := by decide +kernel
set_option maxRecDepth 20000 in
theorem ggX8_gap_X8_isMap : GoodIn wsX8_gap wsX8_isMap := goodIn_r _ [12, 13, 14, 11, 15] (by decide +kernel) (by decide +kernel)
set_option maxRecDepth 20000 in
theorem gX8_gap_X8_isMap : GoodIn wsX8_gap (va_wsS RX8 75 yX8_isMap wsX8_isMap) := goodIn_app (goodIn_of _ (by decide +kernel)) ggX8_gap_X8_isMap
set_option maxRecDepth 20000 in
theorem ggX8_gap_X8_bad : GoodIn wsX8_gap wsX8_bad := goodIn_r _ [19, 20, 21, 47, 48, 49, 50, 51, 52, 53, 54, 55, 56, 57, 58, 59, 60] (by decide +kernel) (by decide +kernel)
set_option maxRecDepth 20000 in
theorem gX8_gap_X8_bad : GoodIn wsX8_gap (wsV RX8 85 RX8 yX8_bad wsX8_bad) := goodIn_app (goodIn_of _ (by decide +kernel)) ggX8_gap_X8_bad
set_option maxRecDepth 20000 in
theorem ggX8_gap_X6_take : GoodIn wsX8_gap wsX6_take := goodIn_r _ [26, 27, 28, 29, 30, 25, 31, 32, 33, 34, 35, 36, 37, 38, 39, 40, 41, 61, 62, 63, 64, 65, 66, 67, 68, 69, 70, 71, 72] (by decide +kernel) (by decide +kernel)
set_option maxRecDepth 20000 in
theorem gX8_gap_X6_take : GoodIn wsX8_gap (wsV RX8 145 RX6 yX6_take wsX6_take) := goodIn_app (goodIn_of _ (by decide +kernel)) ggX8_gap_X6_take
set_option maxRecDepth 20000 in
theorem ggX8_gap_X6_keyAt : GoodIn wsX8_gap wsX6_keyAt := goodIn_r _ [45, 27, 40, 46, 14, 11, 15, 61, 62, 63] (by decide +kernel) (by decide +kernel)
set_option maxRecDepth 20000 in
theorem gX8_gap_X6_keyAt : GoodIn wsX8_gap (wsV RX8 156 RX6 yX6_keyAt wsX6_keyAt) := goodIn_app (goodIn_of _ (by decide +kernel)) ggX8_gap_X6_keyAt
theorem dX8_gap_0 : decode cX8_gap 0 = .ok (.iload_n 1, 1) := by decide +kernel
theorem dX8_gap_1 : decode cX8_gap 1 = .ok (.invokestatic 75, 3) := by decide +kernel
theorem dX8_gap_4 : decode cX8_gap 4 = .ok (.ifCond .ne 8, 3) := by decide +kernel
theorem dX8_gap_7 : decode cX8_gap 7 = .ok (.aload_n 0, 1) := by decide +kernel
theorem dX8_gap_8 : decode cX8_gap 8 = .ok (.invokevirtual 85, 3) := by decide +kernel
theorem dX8_gap_11 : decode cX8_gap 11 = .ok (.ireturn, 1) := by decide +kernel
theorem dX8_gap_12 : decode cX8_gap 12 = .ok (.ldc 100, 2) := by decide +kernel
theorem dX8_gap_14 : decode cX8_gap 14 = .ok (.istore_n 2, 1) := by decide +kernel
theorem dX8_gap_15 : decode cX8_gap 15 = .ok (.aload_n 0, 1) := by decide +kernel
theorem dX8_gap_16 : decode cX8_gap 16 = .ok (.getfield 68, 3) := by decide +kernel
theorem dX8_gap_19 : decode cX8_gap 19 = .ok (.aload_n 0, 1) := by decide +kernel
theorem dX8_gap_20 : decode cX8_gap 20 = .ok (.getfield 27, 3) := by decide +kernel
theorem dX8_gap_23 : decode cX8_gap 23 = .ok (.iload_n 1, 1) := by decide +kernel
theorem dX8_gap_24 : decode cX8_gap 24 = .ok (.aaload, 1) := by decide +kernel
theorem dX8_gap_25 : decode cX8_gap 25 = .ok (.invokevirtual 145, 3) := by decide +kernel
theorem dX8_gap_28 : decode cX8_gap 28 = .ok (.iconst 1, 1) := by decide +kernel
theorem dX8_gap_29 : decode cX8_gap 29 = .ok (.istore_n 3, 1) := by decide +kernel
theorem dX8_gap_30 : decode cX8_gap 30 = .ok (.iload_n 3, 1) := by decide +kernel
theorem dX8_gap_31 : decode cX8_gap 31 = .ok (.aload_n 0, 1) := by decide +kernel
theorem dX8_gap_32 : decode cX8_gap 32 = .ok (.getfield 68, 3) := by decide +kernel
theorem dX8_gap_35 : decode cX8_gap 35 = .ok (.getfield 153, 3) := by decide +kernel
theorem dX8_gap_38 : decode cX8_gap 38 = .ok (.if_icmp .ge 33, 3) := by decide +kernel
theorem dX8_gap_41 : decode cX8_gap 41 = .ok (.iload_n 2, 1) := by decide +kernel
theorem dX8_gap_42 : decode cX8_gap 42 = .ok (.aload_n 0, 1) := by decide +kernel
theorem dX8_gap_43 : decode cX8_gap 43 = .ok (.getfield 68, 3) := by decide +kernel
theorem dX8_gap_46 : decode cX8_gap 46 = .ok (.iload_n 3, 1) := by decide +kernel
theorem dX8_gap_47 : decode cX8_gap 47 = .ok (.invokevirtual 156, 3) := by decide +kernel
theorem dX8_gap_50 : decode cX8_gap 50 = .ok (.aload_n 0, 1) := by decide +kernel
theorem dX8_gap_51 : decode cX8_gap 51 = .ok (.getfield 68, 3) := by decide +kernel
theorem dX8_gap_54 : decode cX8_gap 54 = .ok (.iload_n 3, 1) := by decide +kernel
theorem dX8_gap_55 : decode cX8_gap 55 = .ok (.iconst 1, 1) := by decide +kernel
theorem dX8_gap_56 : decode cX8_gap 56 = .ok (.isub, 1) := by decide +kernel
theorem dX8_gap_57 : decode cX8_gap 57 = .ok (.invokevirtual 156, 3) := by decide +kernel
theorem dX8_gap_60 : decode cX8_gap 60 = .ok (.isub, 1) := by decide +kernel
theorem dX8_gap_61 : decode cX8_gap 61 = .ok (.invokestatic 158, 3) := by decide +kernel
theorem dX8_gap_64 : decode cX8_gap 64 = .ok (.istore_n 2, 1) := by decide +kernel
theorem dX8_gap_65 : decode cX8_gap 65 = .ok (.iinc 3 1, 3) := by decide +kernel
theorem dX8_gap_68 : decode cX8_gap 68 = .ok (.goto (-38), 3) := by decide +kernel
theorem dX8_gap_71 : decode cX8_gap 71 = .ok (.iload_n 2, 1) := by decide +kernel
theorem dX8_gap_72 : decode cX8_gap 72 = .ok (.ireturn, 1) := by decide +kernel
set_option maxRecDepth 20000 in
theorem ggX8_top_X8_isMap : GoodIn wsX8_top wsX8_isMap := goodIn_r _ [7, 8, 9, 6, 10] (by decide +kernel) (by decide +kernel)
set_option maxRecDepth 20000 in
theorem gX8_top_X8_isMap : GoodIn wsX8_top (va_wsS RX8 75 yX8_isMap wsX8_isMap) := goodIn_app (goodIn_of _ (by decide +kernel)) ggX8_top_X8_isMap
set_option maxRecDepth 20000 in
theorem ggX8_top_X8_bad : GoodIn wsX8_top wsX8_bad := goodIn_r _ [14, 15, 16, 64, 65, 66, 67, 68, 69, 70, 71, 72, 73, 74, 75, 76, 77] (by decide +kernel) (by decide +kernel)
set_option maxRecDepth 20000 in
theorem gX8_top_X8_bad : GoodIn wsX8_top (wsV RX8 85 RX8 yX8_bad wsX8_bad) := goodIn_app (goodIn_of _ (by decide +kernel)) ggX8_top_X8_bad
set_option maxRecDepth 20000 in
theorem ggX8_top_X3_countOf : GoodIn wsX8_top wsX3_countOf := goodIn_r _ [20, 21, 78, 79, 80, 81, 82, 83, 84, 85, 86] (by decide +kernel) (by decide +kernel)
set_option maxRecDepth 20000 in
theorem gX8_top_X3_countOf : GoodIn wsX8_top (va_wsS RX8 93 yX3_countOf wsX3_countOf) := goodIn_app (goodIn_of _ (by decide +kernel)) ggX8_top_X3_countOf
set_option maxRecDepth 20000 in
theorem ggX8_top_X6_take : GoodIn wsX8_top wsX6_take := goodIn_r _ [26, 27, 28, 29, 30, 25, 31, 32, 33, 34, 35, 36, 37, 38, 39, 40, 41, 87, 88, 89, 78, 79, 80, 81, 82, 83, 84, 85, 86] (by decide +kernel) (by decide +kernel)
set_option maxRecDepth 20000 in
theorem gX8_top_X6_take : GoodIn wsX8_top (wsV RX8 145 RX6 yX6_take wsX6_take) := goodIn_app (goodIn_of _ (by decide +kernel)) ggX8_top_X6_take
set_option maxRecDepth 20000 in
theorem ggX8_top_X6_keyOfGreatest : GoodIn wsX8_top wsX6_keyOfGreatest := goodIn_r _ [45, 46, 47, 48, 25, 49, 27, 50, 51, 52, 53, 54, 55, 56, 57, 58, 41, 59, 9, 6, 10, 60, 61, 62, 63, 40, 87, 88, 89] (by decide +kernel) (by decide +kernel)
set_option maxRecDepth 20000 in
theorem gX8_top_X6_keyOfGreatest : GoodIn wsX8_top (wsV RX8 164 RX6 yX6_keyOfGreatest wsX6_keyOfGreatest) := goodIn_app (goodIn_of _ (by decide +kernel)) ggX8_top_X6_keyOfGreatest
theorem dX8_top_0 : decode cX8_top 0 = .ok (.iload_n 1, 1) := by decide +kernel
theorem dX8_top_1 : decode cX8_top 1 = .ok (.invokestatic 75, 3) := by decide +kernel
theorem dX8_top_4 : decode cX8_top 4 = .ok (.ifCond .eq 7, 3) := by decide +kernel
theorem dX8_top_7 : decode cX8_top 7 = .ok (.iload_n 2, 1) := by decide +kernel
theorem dX8_top_8 : decode cX8_top 8 = .ok (.ifCond .ge 8, 3) := by decide +kernel
theorem dX8_top_11 : decode cX8_top 11 = .ok (.aload_n 0, 1) := by decide +kernel
theorem dX8_top_12 : decode cX8_top 12 = .ok (.invokevirtual 85, 3) := by decide +kernel
theorem dX8_top_15 : decode cX8_top 15 = .ok (.ireturn, 1) := by decide +kernel
theorem dX8_top_16 : decode cX8_top 16 = .ok (.iload_n 2, 1) := by decide +kernel
theorem dX8_top_17 : decode cX8_top 17 = .ok (.aload_n 0, 1) := by decide +kernel
theorem dX8_top_18 : decode cX8_top 18 = .ok (.getfield 27, 3) := by decide +kernel
theorem dX8_top_21 : decode cX8_top 21 = .ok (.iload_n 1, 1) := by decide +kernel
theorem dX8_top_22 : decode cX8_top 22 = .ok (.aaload, 1) := by decide +kernel
theorem dX8_top_23 : decode cX8_top 23 = .ok (.invokestatic 93, 3) := by decide +kernel
theorem dX8_top_26 : decode cX8_top 26 = .ok (.if_icmp .lt 6, 3) := by decide +kernel
theorem dX8_top_29 : decode cX8_top 29 = .ok (.ldc 100, 2) := by decide +kernel
theorem dX8_top_31 : decode cX8_top 31 = .ok (.ireturn, 1) := by decide +kernel
theorem dX8_top_32 : decode cX8_top 32 = .ok (.aload_n 0, 1) := by decide +kernel
theorem dX8_top_33 : decode cX8_top 33 = .ok (.getfield 68, 3) := by decide +kernel
theorem dX8_top_36 : decode cX8_top 36 = .ok (.aload_n 0, 1) := by decide +kernel
theorem dX8_top_37 : decode cX8_top 37 = .ok (.getfield 27, 3) := by decide +kernel
theorem dX8_top_40 : decode cX8_top 40 = .ok (.iload_n 1, 1) := by decide +kernel
theorem dX8_top_41 : decode cX8_top 41 = .ok (.aaload, 1) := by decide +kernel
theorem dX8_top_42 : decode cX8_top 42 = .ok (.invokevirtual 145, 3) := by decide +kernel
theorem dX8_top_45 : decode cX8_top 45 = .ok (.aload_n 0, 1) := by decide +kernel
theorem dX8_top_46 : decode cX8_top 46 = .ok (.getfield 68, 3) := by decide +kernel
theorem dX8_top_49 : decode cX8_top 49 = .ok (.iload_n 2, 1) := by decide +kernel
theorem dX8_top_50 : decode cX8_top 50 = .ok (.invokevirtual 164, 3) := by decide +kernel
theorem dX8_top_53 : decode cX8_top 53 = .ok (.ireturn, 1) := by decide +kernel
set_option maxRecDepth 20000 in
theorem ggX8_same_X8_isMap : GoodIn wsX8_same wsX8_isMap := goodIn_r _ [5, 6, 7, 4, 8] (by decide +kernel) (by decide +kernel)
set_option maxRecDepth 20000 in
theorem gX8_same_X8_isMap : GoodIn wsX8_same (va_wsS RX8 75 yX8_isMap wsX8_isMap) := goodIn_app (goodIn_of _ (by decide +kernel)) ggX8_same_X8_isMap
set_option maxRecDepth 20000 in
theorem ggX8_same_X8_bad : GoodIn wsX8_same wsX8_bad := goodIn_r _ [12, 13, 14, 56, 57, 58, 59, 60, 61, 62, 63, 64, 65, 66, 67, 68, 69] (by decide +kernel) (by decide +kernel)
set_option maxRecDepth 20000 in
theorem gX8_same_X8_bad : GoodIn wsX8_same (wsV RX8 85 RX8 yX8_bad wsX8_bad) := goodIn_app (goodIn_of _ (by decide +kernel)) ggX8_same_X8_bad
set_option maxRecDepth 20000 in
theorem ggX8_same_X8_firstUnlikeKey : GoodIn wsX8_same wsX8_firstUnlikeKey := goodIn_r _ [18, 19, 20, 21, 22, 23, 24, 25, 26, 27, 28, 29, 30, 31, 32, 33, 34, 35, 36, 37, 38, 39, 40, 41, 42, 43, 44, 45, 46, 47, 48, 49, 50, 51, 7, 4, 8, 52, 53, 54, 55, 56, 57, 58, 59, 60, 61, 62, 63, 64, 65, 66, 67, 68, 69, 70, 71, 72, 73, 74, 75, 76, 77, 78, 79, 80, 81] (by decide +kernel) (by decide +kernel)
set_option maxRecDepth 20000 in
theorem gX8_same_X8_firstUnlikeKey : GoodIn wsX8_same (wsV RX8 167 RX8 yX8_firstUnlikeKey wsX8_firstUnlikeKey) := goodIn_app (goodIn_of _ (by decide +kernel)) ggX8_same_X8_firstUnlikeKey
theorem dX8_same_0 : decode cX8_same 0 = .ok (.iload_n 1, 1) := by decide +kernel
theorem dX8_same_1 : decode cX8_same 1 = .ok (.invokestatic 75, 3) := by decide +kernel
theorem dX8_same_4 : decode cX8_same 4 = .ok (.ifCond .eq 10, 3) := by decide +kernel
theorem dX8_same_7 : decode cX8_same 7 = .ok (.iload_n 2, 1) := by decide +kernel
theorem dX8_same_8 : decode cX8_same 8 = .ok (.invokestatic 75, 3) := by decide +kernel
theorem dX8_same_11 : decode cX8_same 11 = .ok (.ifCond .ne 8, 3) := by decide +kernel
theorem dX8_same_14 : decode cX8_same 14 = .ok (.aload_n 0, 1) := by decide +kernel
theorem dX8_same_15 : decode cX8_same 15 = .ok (.invokevirtual 85, 3) := by decide +kernel
theorem dX8_same_18 : decode cX8_same 18 = .ok (.ireturn, 1) := by decide +kernel
theorem dX8_same_19 : decode cX8_same 19 = .ok (.aload_n 0, 1) := by decide +kernel
theorem dX8_same_20 : decode cX8_same 20 = .ok (.iload_n 1, 1) := by decide +kernel
theorem dX8_same_21 : decode cX8_same 21 = .ok (.iload_n 2, 1) := by decide +kernel
theorem dX8_same_22 : decode cX8_same 22 = .ok (.invokevirtual 167, 3) := by decide +kernel
theorem dX8_same_25 : decode cX8_same 25 = .ok (.ldc 100, 2) := by decide +kernel
theorem dX8_same_27 : decode cX8_same 27 = .ok (.if_icmp .ne 7, 3) := by decide +kernel
theorem dX8_same_30 : decode cX8_same 30 = .ok (.iconst 1, 1) := by decide +kernel
theorem dX8_same_31 : decode cX8_same 31 = .ok (.goto 4, 3) := by decide +kernel
theorem dX8_same_34 : decode cX8_same 34 = .ok (.iconst 0, 1) := by decide +kernel
theorem dX8_same_35 : decode cX8_same 35 = .ok (.ireturn, 1) := by decide +kernel
set_option maxRecDepth 20000 in
theorem ggX8_common_X8_isMap : GoodIn wsX8_common wsX8_isMap := goodIn_r _ [7, 8, 9, 6, 10] (by decide +kernel) (by decide +kernel)
set_option maxRecDepth 20000 in
theorem gX8_common_X8_isMap : GoodIn wsX8_common (va_wsS RX8 75 yX8_isMap wsX8_isMap) := goodIn_app (goodIn_of _ (by decide +kernel)) ggX8_common_X8_isMap
set_option maxRecDepth 20000 in
theorem ggX8_common_X8_bad : GoodIn wsX8_common wsX8_bad := goodIn_r _ [14, 15, 16, 49, 50, 51, 52, 53, 54, 55, 56, 57, 58, 59, 60, 61, 62] (by decide +kernel) (by decide +kernel)
set_option maxRecDepth 20000 in
theorem gX8_common_X8_bad : GoodIn wsX8_common (wsV RX8 85 RX8 yX8_bad wsX8_bad) := goodIn_app (goodIn_of _ (by decide +kernel)) ggX8_common_X8_bad
set_option maxRecDepth 20000 in
theorem ggX8_common_X6_take : GoodIn wsX8_common wsX6_take := goodIn_r _ [21, 22, 23, 24, 25, 20, 26, 27, 28, 29, 30, 31, 32, 33, 34, 35, 36, 63, 64, 65, 66, 67, 68, 69, 70, 71, 72, 73, 74] (by decide +kernel) (by decide +kernel)
set_option maxRecDepth 20000 in
theorem gX8_common_X6_take : GoodIn wsX8_common (wsV RX8 145 RX6 yX6_take wsX6_take) := goodIn_app (goodIn_of _ (by decide +kernel)) ggX8_common_X6_take
set_option maxRecDepth 20000 in
theorem ggX8_common_X6_keyAt : GoodIn wsX8_common wsX6_keyAt := goodIn_r _ [40, 22, 35, 41, 9, 6, 10, 63, 64, 65] (by decide +kernel) (by decide +kernel)
set_option maxRecDepth 20000 in
theorem gX8_common_X6_keyAt : GoodIn wsX8_common (wsV RX8 156 RX6 yX6_keyAt wsX6_keyAt) := goodIn_app (goodIn_of _ (by decide +kernel)) ggX8_common_X6_keyAt
set_option maxRecDepth 20000 in
theorem ggX8_common_X3_find : GoodIn wsX8_common wsX3_find := goodIn_r _ [45, 46, 47, 48, 66, 67, 68, 69, 70, 71, 72, 73, 74] (by decide +kernel) (by decide +kernel)
set_option maxRecDepth 20000 in
theorem gX8_common_X3_find : GoodIn wsX8_common (va_wsS RX8 89 yX3_find wsX3_find) := goodIn_app (goodIn_of _ (by decide +kernel)) ggX8_common_X3_find
theorem dX8_common_0 : decode cX8_common 0 = .ok (.iload_n 1, 1) := by decide +kernel
theorem dX8_common_1 : decode cX8_common 1 = .ok (.invokestatic 75, 3) := by decide +kernel
theorem dX8_common_4 : decode cX8_common 4 = .ok (.ifCond .eq 10, 3) := by decide +kernel
theorem dX8_common_7 : decode cX8_common 7 = .ok (.iload_n 2, 1) := by decide +kernel
theorem dX8_common_8 : decode cX8_common 8 = .ok (.invokestatic 75, 3) := by decide +kernel
theorem dX8_common_11 : decode cX8_common 11 = .ok (.ifCond .ne 8, 3) := by decide +kernel
theorem dX8_common_14 : decode cX8_common 14 = .ok (.aload_n 0, 1) := by decide +kernel
theorem dX8_common_15 : decode cX8_common 15 = .ok (.invokevirtual 85, 3) := by decide +kernel
theorem dX8_common_18 : decode cX8_common 18 = .ok (.ireturn, 1) := by decide +kernel
theorem dX8_common_19 : decode cX8_common 19 = .ok (.iconst 0, 1) := by decide +kernel
theorem dX8_common_20 : decode cX8_common 20 = .ok (.istore_n 3, 1) := by decide +kernel
theorem dX8_common_21 : decode cX8_common 21 = .ok (.aload_n 0, 1) := by decide +kernel
theorem dX8_common_22 : decode cX8_common 22 = .ok (.getfield 68, 3) := by decide +kernel
theorem dX8_common_25 : decode cX8_common 25 = .ok (.aload_n 0, 1) := by decide +kernel
theorem dX8_common_26 : decode cX8_common 26 = .ok (.getfield 27, 3) := by decide +kernel
theorem dX8_common_29 : decode cX8_common 29 = .ok (.iload_n 1, 1) := by decide +kernel
theorem dX8_common_30 : decode cX8_common 30 = .ok (.aaload, 1) := by decide +kernel
theorem dX8_common_31 : decode cX8_common 31 = .ok (.invokevirtual 145, 3) := by decide +kernel
theorem dX8_common_34 : decode cX8_common 34 = .ok (.iconst 0, 1) := by decide +kernel
theorem dX8_common_35 : decode cX8_common 35 = .ok (.istore 4, 2) := by decide +kernel
theorem dX8_common_37 : decode cX8_common 37 = .ok (.iload 4, 2) := by decide +kernel
theorem dX8_common_39 : decode cX8_common 39 = .ok (.aload_n 0, 1) := by decide +kernel
theorem dX8_common_40 : decode cX8_common 40 = .ok (.getfield 68, 3) := by decide +kernel
theorem dX8_common_43 : decode cX8_common 43 = .ok (.getfield 153, 3) := by decide +kernel
theorem dX8_common_46 : decode cX8_common 46 = .ok (.if_icmp .ge 33, 3) := by decide +kernel
theorem dX8_common_49 : decode cX8_common 49 = .ok (.aload_n 0, 1) := by decide +kernel
theorem dX8_common_50 : decode cX8_common 50 = .ok (.getfield 27, 3) := by decide +kernel
theorem dX8_common_53 : decode cX8_common 53 = .ok (.iload_n 2, 1) := by decide +kernel
theorem dX8_common_54 : decode cX8_common 54 = .ok (.aaload, 1) := by decide +kernel
theorem dX8_common_55 : decode cX8_common 55 = .ok (.aload_n 0, 1) := by decide +kernel
theorem dX8_common_56 : decode cX8_common 56 = .ok (.getfield 68, 3) := by decide +kernel
theorem dX8_common_59 : decode cX8_common 59 = .ok (.iload 4, 2) := by decide +kernel
theorem dX8_common_61 : decode cX8_common 61 = .ok (.invokevirtual 156, 3) := by decide +kernel
theorem dX8_common_64 : decode cX8_common 64 = .ok (.invokestatic 89, 3) := by decide +kernel
theorem dX8_common_67 : decode cX8_common 67 = .ok (.ifnull 6, 3) := by decide +kernel
theorem dX8_common_70 : decode cX8_common 70 = .ok (.iinc 3 1, 3) := by decide +kernel
theorem dX8_common_73 : decode cX8_common 73 = .ok (.iinc 4 1, 3) := by decide +kernel
theorem dX8_common_76 : decode cX8_common 76 = .ok (.goto (-39), 3) := by decide +kernel
theorem dX8_common_79 : decode cX8_common 79 = .ok (.iload_n 3, 1) := by decide +kernel
theorem dX8_common_80 : decode cX8_common 80 = .ok (.ireturn, 1) := by decide +kernel
set_option maxRecDepth 20000 in
theorem ggX8_apart_X8_isMap : GoodIn wsX8_apart wsX8_isMap := goodIn_r _ [4, 5, 6, 3, 7] (by decide +kernel) (by decide +kernel)
set_option maxRecDepth 20000 in
theorem gX8_apart_X8_isMap : GoodIn wsX8_apart (va_wsS RX8 75 yX8_isMap wsX8_isMap) := goodIn_app (goodIn_of _ (by decide +kernel)) ggX8_apart_X8_isMap
set_option maxRecDepth 20000 in
theorem ggX8_apart_X8_firstUnlikeKey : GoodIn wsX8_apart wsX8_firstUnlikeKey := goodIn_r _ [11, 12, 13, 14, 15, 16, 17, 18, 19, 20, 21, 22, 23, 24, 25, 26, 27, 28, 29, 30, 31, 32, 33, 34, 35, 36, 37, 38, 39, 40, 41, 42, 43, 44, 6, 3, 7, 45, 46, 47, 48, 55, 56, 57, 58, 59, 60, 61, 62, 63, 64, 65, 66, 67, 68, 69, 70, 71, 72, 73, 74, 75, 76, 77, 78, 79, 80] (by decide +kernel) (by decide +kernel)
set_option maxRecDepth 20000 in
theorem gX8_apart_X8_firstUnlikeKey : GoodIn wsX8_apart (wsV RX8 167 RX8 yX8_firstUnlikeKey wsX8_firstUnlikeKey) := goodIn_app (goodIn_of _ (by decide +kernel)) ggX8_apart_X8_firstUnlikeKey
set_option maxRecDepth 20000 in
theorem ggX8_apart_X8_bad : GoodIn wsX8_apart wsX8_bad := goodIn_r _ [52, 53, 54, 55, 56, 57, 58, 59, 60, 61, 62, 63, 64, 65, 66, 67, 68] (by decide +kernel) (by decide +kernel)
set_option maxRecDepth 20000 in
theorem gX8_apart_X8_bad : GoodIn wsX8_apart (wsV RX8 85 RX8 yX8_bad wsX8_bad) := goodIn_app (goodIn_of _ (by decide +kernel)) ggX8_apart_X8_bad
theorem dX8_apart_0 : decode cX8_apart 0 = .ok (.iload_n 1, 1) := by decide +kernel
theorem dX8_apart_1 : decode cX8_apart 1 = .ok (.invokestatic 75, 3) := by decide +kernel
theorem dX8_apart_4 : decode cX8_apart 4 = .ok (.ifCond .eq 19, 3) := by decide +kernel
theorem dX8_apart_7 : decode cX8_apart 7 = .ok (.iload_n 2, 1) := by decide +kernel
theorem dX8_apart_8 : decode cX8_apart 8 = .ok (.invokestatic 75, 3) := by decide +kernel
theorem dX8_apart_11 : decode cX8_apart 11 = .ok (.ifCond .eq 12, 3) := by decide +kernel
theorem dX8_apart_14 : decode cX8_apart 14 = .ok (.aload_n 0, 1) := by decide +kernel
theorem dX8_apart_15 : decode cX8_apart 15 = .ok (.iload_n 1, 1) := by decide +kernel
theorem dX8_apart_16 : decode cX8_apart 16 = .ok (.iload_n 2, 1) := by decide +kernel
theorem dX8_apart_17 : decode cX8_apart 17 = .ok (.invokevirtual 167, 3) := by decide +kernel
theorem dX8_apart_20 : decode cX8_apart 20 = .ok (.goto 7, 3) := by decide +kernel
theorem dX8_apart_23 : decode cX8_apart 23 = .ok (.aload_n 0, 1) := by decide +kernel
theorem dX8_apart_24 : decode cX8_apart 24 = .ok (.invokevirtual 85, 3) := by decide +kernel
theorem dX8_apart_27 : decode cX8_apart 27 = .ok (.ireturn, 1) := by decide +kernel
set_option maxRecDepth 20000 in
theorem ggX8_cut_X8_isMap : GoodIn wsX8_cut wsX8_isMap := goodIn_r _ [7, 8, 9, 6, 10] (by decide +kernel) (by decide +kernel)
set_option maxRecDepth 20000 in
theorem gX8_cut_X8_isMap : GoodIn wsX8_cut (va_wsS RX8 75 yX8_isMap wsX8_isMap) := goodIn_app (goodIn_of _ (by decide +kernel)) ggX8_cut_X8_isMap
set_option maxRecDepth 20000 in
theorem ggX8_cut_X8_isKey : GoodIn wsX8_cut wsX8_isKey := goodIn_r _ [13, 8, 9, 6, 10] (by decide +kernel) (by decide +kernel)
set_option maxRecDepth 20000 in
theorem gX8_cut_X8_isKey : GoodIn wsX8_cut (va_wsS RX8 79 yX8_isKey wsX8_isKey) := goodIn_app (goodIn_of _ (by decide +kernel)) ggX8_cut_X8_isKey
set_option maxRecDepth 20000 in
theorem ggX8_cut_X8_bad : GoodIn wsX8_cut wsX8_bad := goodIn_r _ [17, 18, 19, 124, 125, 126, 127, 128, 129, 130, 131, 132, 133, 134, 135, 136, 137] (by decide +kernel) (by decide +kernel)
set_option maxRecDepth 20000 in
theorem gX8_cut_X8_bad : GoodIn wsX8_cut (wsV RX8 85 RX8 yX8_bad wsX8_bad) := goodIn_app (goodIn_of _ (by decide +kernel)) ggX8_cut_X8_bad
set_option maxRecDepth 20000 in
theorem ggX8_cut_X8_startChange : GoodIn wsX8_cut wsX8_startChange := goodIn_r _ [23, 3, 2, 1, 24, 25, 26, 27, 28, 29, 30, 31, 32, 33, 34, 35, 36, 37, 38, 39, 40, 41, 42, 43, 44, 45, 46, 47, 48, 49, 50, 51, 52, 53, 54, 55, 56, 57, 124, 125, 126, 127, 128, 129, 130, 131, 132, 133, 134, 135, 136, 137, 138, 139, 140, 141, 142, 143, 144, 145, 146, 147, 148, 149, 150, 151, 152, 153, 154, 155, 156, 157] (by decide +kernel) (by decide +kernel)
set_option maxRecDepth 20000 in
theorem gX8_cut_X8_startChange : GoodIn wsX8_cut (wsV RX8 105 RX8 yX8_startChange wsX8_startChange) := goodIn_app (goodIn_of _ (by decide +kernel)) ggX8_cut_X8_startChange
set_option maxRecDepth 20000 in
theorem ggX8_cut_X7_leave : GoodIn wsX8_cut wsX7_leave := goodIn_r _ [62, 63, 64, 65, 66, 67, 68, 69, 138, 139, 140] (by decide +kernel) (by decide +kernel)
set_option maxRecDepth 20000 in
theorem gX8_cut_X7_leave : GoodIn wsX8_cut (wsV RX8 170 RX7 yX7_leave wsX7_leave) := goodIn_app (goodIn_of _ (by decide +kernel)) ggX8_cut_X7_leave
set_option maxRecDepth 20000 in
theorem ggX8_cut_X2_below : GoodIn wsX8_cut wsX2_below := goodIn_r _ [73, 74, 48, 49, 75, 76, 71, 72, 31, 77, 78, 79, 80, 81, 82, 83, 84, 85, 86, 87, 88, 89, 90, 91, 92, 93, 94, 95, 54, 96, 97, 55, 57, 56, 33, 98, 99, 100, 101, 102, 103, 104, 105, 106, 107, 108, 109, 110, 111, 112, 113, 114, 115, 116, 117, 149, 150, 151, 152, 153, 154, 155, 156, 157, 145, 146, 147, 148] (by decide +kernel) (by decide +kernel)
set_option maxRecDepth 20000 in
theorem gX8_cut_X2_below : GoodIn wsX8_cut (wsV RX8 174 RX2 yX2_below wsX2_below) := goodIn_app (goodIn_of _ (by decide +kernel)) ggX8_cut_X2_below
set_option maxRecDepth 20000 in
theorem ggX8_cut_X2_above : GoodIn wsX8_cut wsX2_above := goodIn_r _ [121, 74, 49, 48, 75, 122, 119, 120, 31, 77, 78, 79, 80, 81, 82, 83, 84, 85, 86, 87, 88, 89, 90, 91, 92, 93, 94, 95, 54, 96, 97, 55, 57, 56, 33, 98, 99, 100, 101, 102, 103, 104, 105, 106, 107, 108, 109, 110, 111, 112, 113, 114, 115, 116, 117, 149, 150, 151, 152, 153, 154, 155, 156, 157, 145, 146, 147, 148] (by decide +kernel) (by decide +kernel)
set_option maxRecDepth 20000 in
theorem gX8_cut_X2_above : GoodIn wsX8_cut (wsV RX8 177 RX2 yX2_above wsX2_above) := goodIn_app (goodIn_of _ (by decide +kernel)) ggX8_cut_X2_above
set_option maxRecDepth 20000 in
theorem ggX8_cut_X3_countOf : GoodIn wsX8_cut wsX3_countOf := goodIn_r _ [87, 88, 149, 150, 151, 152, 153, 154, 155, 156, 157] (by decide +kernel) (by decide +kernel)
set_option maxRecDepth 20000 in
theorem gX8_cut_X3_countOf : GoodIn wsX8_cut (va_wsS RX8 93 yX3_countOf wsX3_countOf) := goodIn_app (goodIn_of _ (by decide +kernel)) ggX8_cut_X3_countOf
theorem dX8_cut_0 : decode cX8_cut 0 = .ok (.iload_n 1, 1) := by decide +kernel
theorem dX8_cut_1 : decode cX8_cut 1 = .ok (.invokestatic 75, 3) := by decide +kernel
theorem dX8_cut_4 : decode cX8_cut 4 = .ok (.ifCond .eq 22, 3) := by decide +kernel
theorem dX8_cut_7 : decode cX8_cut 7 = .ok (.iload_n 2, 1) := by decide +kernel
theorem dX8_cut_8 : decode cX8_cut 8 = .ok (.invokestatic 79, 3) := by decide +kernel
theorem dX8_cut_11 : decode cX8_cut 11 = .ok (.ifCond .eq 15, 3) := by decide +kernel
theorem dX8_cut_14 : decode cX8_cut 14 = .ok (.iload_n 3, 1) := by decide +kernel
theorem dX8_cut_15 : decode cX8_cut 15 = .ok (.invokestatic 75, 3) := by decide +kernel
theorem dX8_cut_18 : decode cX8_cut 18 = .ok (.ifCond .eq 8, 3) := by decide +kernel
theorem dX8_cut_21 : decode cX8_cut 21 = .ok (.iload_n 1, 1) := by decide +kernel
theorem dX8_cut_22 : decode cX8_cut 22 = .ok (.iload_n 3, 1) := by decide +kernel
theorem dX8_cut_23 : decode cX8_cut 23 = .ok (.if_icmp .ne 8, 3) := by decide +kernel
theorem dX8_cut_26 : decode cX8_cut 26 = .ok (.aload_n 0, 1) := by decide +kernel
theorem dX8_cut_27 : decode cX8_cut 27 = .ok (.invokevirtual 85, 3) := by decide +kernel
theorem dX8_cut_30 : decode cX8_cut 30 = .ok (.ireturn, 1) := by decide +kernel
theorem dX8_cut_31 : decode cX8_cut 31 = .ok (.aload_n 0, 1) := by decide +kernel
theorem dX8_cut_32 : decode cX8_cut 32 = .ok (.invokevirtual 105, 3) := by decide +kernel
theorem dX8_cut_35 : decode cX8_cut 35 = .ok (.aload_n 0, 1) := by decide +kernel
theorem dX8_cut_36 : decode cX8_cut 36 = .ok (.getfield 34, 3) := by decide +kernel
theorem dX8_cut_39 : decode cX8_cut 39 = .ok (.aload_n 0, 1) := by decide +kernel
theorem dX8_cut_40 : decode cX8_cut 40 = .ok (.getfield 27, 3) := by decide +kernel
theorem dX8_cut_43 : decode cX8_cut 43 = .ok (.invokevirtual 170, 3) := by decide +kernel
theorem dX8_cut_46 : decode cX8_cut 46 = .ok (.aload_n 0, 1) := by decide +kernel
theorem dX8_cut_47 : decode cX8_cut 47 = .ok (.getfield 27, 3) := by decide +kernel
theorem dX8_cut_50 : decode cX8_cut 50 = .ok (.iload_n 1, 1) := by decide +kernel
theorem dX8_cut_51 : decode cX8_cut 51 = .ok (.aaload, 1) := by decide +kernel
theorem dX8_cut_52 : decode cX8_cut 52 = .ok (.astore 4, 2) := by decide +kernel
theorem dX8_cut_54 : decode cX8_cut 54 = .ok (.aload_n 0, 1) := by decide +kernel
theorem dX8_cut_55 : decode cX8_cut 55 = .ok (.getfield 27, 3) := by decide +kernel
theorem dX8_cut_58 : decode cX8_cut 58 = .ok (.iload_n 1, 1) := by decide +kernel
theorem dX8_cut_59 : decode cX8_cut 59 = .ok (.aload_n 0, 1) := by decide +kernel
theorem dX8_cut_60 : decode cX8_cut 60 = .ok (.getfield 10, 3) := by decide +kernel
theorem dX8_cut_63 : decode cX8_cut 63 = .ok (.aload 4, 2) := by decide +kernel
theorem dX8_cut_65 : decode cX8_cut 65 = .ok (.iload_n 2, 1) := by decide +kernel
theorem dX8_cut_66 : decode cX8_cut 66 = .ok (.iconst 0, 1) := by decide +kernel
theorem dX8_cut_67 : decode cX8_cut 67 = .ok (.invokevirtual 174, 3) := by decide +kernel
theorem dX8_cut_70 : decode cX8_cut 70 = .ok (.aastore, 1) := by decide +kernel
theorem dX8_cut_71 : decode cX8_cut 71 = .ok (.aload_n 0, 1) := by decide +kernel
theorem dX8_cut_72 : decode cX8_cut 72 = .ok (.getfield 27, 3) := by decide +kernel
theorem dX8_cut_75 : decode cX8_cut 75 = .ok (.iload_n 3, 1) := by decide +kernel
theorem dX8_cut_76 : decode cX8_cut 76 = .ok (.aload_n 0, 1) := by decide +kernel
theorem dX8_cut_77 : decode cX8_cut 77 = .ok (.getfield 10, 3) := by decide +kernel
theorem dX8_cut_80 : decode cX8_cut 80 = .ok (.aload 4, 2) := by decide +kernel
theorem dX8_cut_82 : decode cX8_cut 82 = .ok (.iload_n 2, 1) := by decide +kernel
theorem dX8_cut_83 : decode cX8_cut 83 = .ok (.iconst 1, 1) := by decide +kernel
theorem dX8_cut_84 : decode cX8_cut 84 = .ok (.isub, 1) := by decide +kernel
theorem dX8_cut_85 : decode cX8_cut 85 = .ok (.iconst 0, 1) := by decide +kernel
theorem dX8_cut_86 : decode cX8_cut 86 = .ok (.invokevirtual 177, 3) := by decide +kernel
theorem dX8_cut_89 : decode cX8_cut 89 = .ok (.aastore, 1) := by decide +kernel
theorem dX8_cut_90 : decode cX8_cut 90 = .ok (.aload_n 0, 1) := by decide +kernel
theorem dX8_cut_91 : decode cX8_cut 91 = .ok (.getfield 27, 3) := by decide +kernel
theorem dX8_cut_94 : decode cX8_cut 94 = .ok (.iload_n 3, 1) := by decide +kernel
theorem dX8_cut_95 : decode cX8_cut 95 = .ok (.aaload, 1) := by decide +kernel
theorem dX8_cut_96 : decode cX8_cut 96 = .ok (.invokestatic 93, 3) := by decide +kernel
theorem dX8_cut_99 : decode cX8_cut 99 = .ok (.ireturn, 1) := by decide +kernel
set_option maxRecDepth 20000 in
theorem ggX8_glue_X8_isMap : GoodIn wsX8_glue wsX8_isMap := goodIn_r _ [6, 7, 8, 5, 9] (by decide +kernel) (by decide +kernel)
set_option maxRecDepth 20000 in
theorem gX8_glue_X8_isMap : GoodIn wsX8_glue (va_wsS RX8 75 yX8_isMap wsX8_isMap) := goodIn_app (goodIn_of _ (by decide +kernel)) ggX8_glue_X8_isMap
set_option maxRecDepth 20000 in
theorem ggX8_glue_X8_bad : GoodIn wsX8_glue wsX8_bad := goodIn_r _ [13, 14, 15, 142, 143, 144, 145, 146, 147, 148, 149, 150, 151, 152, 153, 154, 155] (by decide +kernel) (by decide +kernel)
set_option maxRecDepth 20000 in
theorem gX8_glue_X8_bad : GoodIn wsX8_glue (wsV RX8 85 RX8 yX8_bad wsX8_bad) := goodIn_app (goodIn_of _ (by decide +kernel)) ggX8_glue_X8_bad
set_option maxRecDepth 20000 in
theorem ggX8_glue_X3_countOf : GoodIn wsX8_glue wsX3_countOf := goodIn_r _ [19, 20, 156, 157, 158, 159, 160, 161, 162, 163, 164] (by decide +kernel) (by decide +kernel)
set_option maxRecDepth 20000 in
theorem gX8_glue_X3_countOf : GoodIn wsX8_glue (va_wsS RX8 93 yX3_countOf wsX3_countOf) := goodIn_app (goodIn_of _ (by decide +kernel)) ggX8_glue_X3_countOf
set_option maxRecDepth 20000 in
theorem ggX8_glue_X3_keyAt : GoodIn wsX8_glue wsX3_keyAt := goodIn_r _ [23, 24, 25, 26, 27, 28, 17, 18, 19, 20, 156, 157, 158, 159, 160, 161, 162, 163, 164] (by decide +kernel) (by decide +kernel)
set_option maxRecDepth 20000 in
theorem gX8_glue_X3_keyAt : GoodIn wsX8_glue (va_wsS RX8 130 yX3_keyAt wsX3_keyAt) := goodIn_app (goodIn_of _ (by decide +kernel)) ggX8_glue_X3_keyAt
set_option maxRecDepth 20000 in
theorem ggX8_glue_X8_no : GoodIn wsX8_glue wsX8_no := goodIn_r _ [32, 33, 34, 142, 143, 144, 145, 146, 147, 148, 149, 150, 151, 152, 153, 154, 155] (by decide +kernel) (by decide +kernel)
set_option maxRecDepth 20000 in
theorem gX8_glue_X8_no : GoodIn wsX8_glue (wsV RX8 116 RX8 yX8_no wsX8_no) := goodIn_app (goodIn_of _ (by decide +kernel)) ggX8_glue_X8_no
set_option maxRecDepth 20000 in
theorem ggX8_glue_X8_full : GoodIn wsX8_glue wsX8_full := goodIn_r _ [38, 39, 40, 142, 143, 144, 145, 146, 147, 148, 149, 150, 151, 152, 153, 154, 155] (by decide +kernel) (by decide +kernel)
set_option maxRecDepth 20000 in
theorem gX8_glue_X8_full : GoodIn wsX8_glue (wsV RX8 97 RX8 yX8_full wsX8_full) := goodIn_app (goodIn_of _ (by decide +kernel)) ggX8_glue_X8_full
set_option maxRecDepth 20000 in
theorem ggX8_glue_X8_startChange : GoodIn wsX8_glue wsX8_startChange := goodIn_r _ [44, 2, 1, 45, 46, 47, 48, 49, 50, 51, 52, 53, 54, 55, 56, 57, 58, 59, 60, 61, 62, 63, 64, 65, 66, 67, 68, 69, 70, 71, 72, 73, 74, 75, 76, 77, 78, 79, 142, 143, 144, 145, 146, 147, 148, 149, 150, 151, 152, 153, 154, 155, 165, 166, 167, 168, 169, 170, 171, 172, 173, 174, 175, 156, 157, 158, 159, 160, 161, 162, 163, 164] (by decide +kernel) (by decide +kernel)
set_option maxRecDepth 20000 in
theorem gX8_glue_X8_startChange : GoodIn wsX8_glue (wsV RX8 105 RX8 yX8_startChange wsX8_startChange) := goodIn_app (goodIn_of _ (by decide +kernel)) ggX8_glue_X8_startChange
set_option maxRecDepth 20000 in
theorem ggX8_glue_X2_chain : GoodIn wsX8_glue wsX2_chain := goodIn_r _ [83, 70, 84, 85, 86, 87, 88, 53, 89, 71, 90, 91, 92, 93, 94, 95, 18, 96, 28, 17, 19, 20, 97, 98, 99, 100, 101, 102, 103, 76, 104, 105, 77, 79, 78, 55, 106, 107, 108, 109, 110, 111, 112, 113, 114, 115, 116, 117, 118, 119, 120, 121, 122, 123, 124, 125, 156, 157, 158, 159, 160, 161, 162, 163, 164, 172, 173, 174, 175] (by decide +kernel) (by decide +kernel)
set_option maxRecDepth 20000 in
theorem gX8_glue_X2_chain : GoodIn wsX8_glue (wsV RX8 180 RX2 yX2_chain wsX2_chain) := goodIn_app (goodIn_of _ (by decide +kernel)) ggX8_glue_X2_chain
set_option maxRecDepth 20000 in
theorem ggX8_glue_X8_settle : GoodIn wsX8_glue wsX8_settle := goodIn_r _ [129, 45, 1, 130, 131, 132, 133, 134, 135, 136, 137, 138, 139, 140, 141, 16, 17, 18, 19, 20, 142, 143, 144, 145, 146, 147, 148, 149, 150, 151, 152, 153, 154, 155, 165, 166, 167, 156, 157, 158, 159, 160, 161, 162, 163, 164] (by decide +kernel) (by decide +kernel)
set_option maxRecDepth 20000 in
theorem gX8_glue_X8_settle : GoodIn wsX8_glue (wsV RX8 112 RX8 yX8_settle wsX8_settle) := goodIn_app (goodIn_of _ (by decide +kernel)) ggX8_glue_X8_settle
theorem dX8_glue_0 : decode cX8_glue 0 = .ok (.iload_n 1, 1) := by decide +kernel
theorem dX8_glue_1 : decode cX8_glue 1 = .ok (.invokestatic 75, 3) := by decide +kernel
theorem dX8_glue_4 : decode cX8_glue 4 = .ok (.ifCond .eq 15, 3) := by decide +kernel
theorem dX8_glue_7 : decode cX8_glue 7 = .ok (.iload_n 2, 1) := by decide +kernel
theorem dX8_glue_8 : decode cX8_glue 8 = .ok (.invokestatic 75, 3) := by decide +kernel
theorem dX8_glue_11 : decode cX8_glue 11 = .ok (.ifCond .eq 8, 3) := by decide +kernel
theorem dX8_glue_14 : decode cX8_glue 14 = .ok (.iload_n 1, 1) := by decide +kernel
theorem dX8_glue_15 : decode cX8_glue 15 = .ok (.iload_n 2, 1) := by decide +kernel
theorem dX8_glue_16 : decode cX8_glue 16 = .ok (.if_icmp .ne 8, 3) := by decide +kernel
theorem dX8_glue_19 : decode cX8_glue 19 = .ok (.aload_n 0, 1) := by decide +kernel
theorem dX8_glue_20 : decode cX8_glue 20 = .ok (.invokevirtual 85, 3) := by decide +kernel
theorem dX8_glue_23 : decode cX8_glue 23 = .ok (.ireturn, 1) := by decide +kernel
theorem dX8_glue_24 : decode cX8_glue 24 = .ok (.aload_n 0, 1) := by decide +kernel
theorem dX8_glue_25 : decode cX8_glue 25 = .ok (.getfield 27, 3) := by decide +kernel
theorem dX8_glue_28 : decode cX8_glue 28 = .ok (.iload_n 1, 1) := by decide +kernel
theorem dX8_glue_29 : decode cX8_glue 29 = .ok (.aaload, 1) := by decide +kernel
theorem dX8_glue_30 : decode cX8_glue 30 = .ok (.invokestatic 93, 3) := by decide +kernel
theorem dX8_glue_33 : decode cX8_glue 33 = .ok (.istore_n 3, 1) := by decide +kernel
theorem dX8_glue_34 : decode cX8_glue 34 = .ok (.aload_n 0, 1) := by decide +kernel
theorem dX8_glue_35 : decode cX8_glue 35 = .ok (.getfield 27, 3) := by decide +kernel
theorem dX8_glue_38 : decode cX8_glue 38 = .ok (.iload_n 2, 1) := by decide +kernel
theorem dX8_glue_39 : decode cX8_glue 39 = .ok (.aaload, 1) := by decide +kernel
theorem dX8_glue_40 : decode cX8_glue 40 = .ok (.invokestatic 93, 3) := by decide +kernel
theorem dX8_glue_43 : decode cX8_glue 43 = .ok (.istore 4, 2) := by decide +kernel
theorem dX8_glue_45 : decode cX8_glue 45 = .ok (.iload_n 3, 1) := by decide +kernel
theorem dX8_glue_46 : decode cX8_glue 46 = .ok (.ifCond .le 38, 3) := by decide +kernel
theorem dX8_glue_49 : decode cX8_glue 49 = .ok (.iload 4, 2) := by decide +kernel
theorem dX8_glue_51 : decode cX8_glue 51 = .ok (.ifCond .le 33, 3) := by decide +kernel
theorem dX8_glue_54 : decode cX8_glue 54 = .ok (.aload_n 0, 1) := by decide +kernel
theorem dX8_glue_55 : decode cX8_glue 55 = .ok (.getfield 27, 3) := by decide +kernel
theorem dX8_glue_58 : decode cX8_glue 58 = .ok (.iload_n 1, 1) := by decide +kernel
theorem dX8_glue_59 : decode cX8_glue 59 = .ok (.aaload, 1) := by decide +kernel
theorem dX8_glue_60 : decode cX8_glue 60 = .ok (.iload_n 3, 1) := by decide +kernel
theorem dX8_glue_61 : decode cX8_glue 61 = .ok (.iconst 1, 1) := by decide +kernel
theorem dX8_glue_62 : decode cX8_glue 62 = .ok (.isub, 1) := by decide +kernel
theorem dX8_glue_63 : decode cX8_glue 63 = .ok (.invokestatic 130, 3) := by decide +kernel
theorem dX8_glue_66 : decode cX8_glue 66 = .ok (.aload_n 0, 1) := by decide +kernel
theorem dX8_glue_67 : decode cX8_glue 67 = .ok (.getfield 27, 3) := by decide +kernel
theorem dX8_glue_70 : decode cX8_glue 70 = .ok (.iload_n 2, 1) := by decide +kernel
theorem dX8_glue_71 : decode cX8_glue 71 = .ok (.aaload, 1) := by decide +kernel
theorem dX8_glue_72 : decode cX8_glue 72 = .ok (.iconst 0, 1) := by decide +kernel
theorem dX8_glue_73 : decode cX8_glue 73 = .ok (.invokestatic 130, 3) := by decide +kernel
theorem dX8_glue_76 : decode cX8_glue 76 = .ok (.if_icmp .lt 8, 3) := by decide +kernel
theorem dX8_glue_79 : decode cX8_glue 79 = .ok (.aload_n 0, 1) := by decide +kernel
theorem dX8_glue_80 : decode cX8_glue 80 = .ok (.invokevirtual 116, 3) := by decide +kernel
theorem dX8_glue_83 : decode cX8_glue 83 = .ok (.ireturn, 1) := by decide +kernel
theorem dX8_glue_84 : decode cX8_glue 84 = .ok (.iload_n 3, 1) := by decide +kernel
theorem dX8_glue_85 : decode cX8_glue 85 = .ok (.iload 4, 2) := by decide +kernel
theorem dX8_glue_87 : decode cX8_glue 87 = .ok (.iadd, 1) := by decide +kernel
theorem dX8_glue_88 : decode cX8_glue 88 = .ok (.sipush 200, 3) := by decide +kernel
theorem dX8_glue_91 : decode cX8_glue 91 = .ok (.if_icmp .le 8, 3) := by decide +kernel
theorem dX8_glue_94 : decode cX8_glue 94 = .ok (.aload_n 0, 1) := by decide +kernel
theorem dX8_glue_95 : decode cX8_glue 95 = .ok (.invokevirtual 97, 3) := by decide +kernel
theorem dX8_glue_98 : decode cX8_glue 98 = .ok (.ireturn, 1) := by decide +kernel
theorem dX8_glue_99 : decode cX8_glue 99 = .ok (.aload_n 0, 1) := by decide +kernel
theorem dX8_glue_100 : decode cX8_glue 100 = .ok (.invokevirtual 105, 3) := by decide +kernel
theorem dX8_glue_103 : decode cX8_glue 103 = .ok (.aload_n 0, 1) := by decide +kernel
theorem dX8_glue_104 : decode cX8_glue 104 = .ok (.iload_n 1, 1) := by decide +kernel
theorem dX8_glue_105 : decode cX8_glue 105 = .ok (.aload_n 0, 1) := by decide +kernel
theorem dX8_glue_106 : decode cX8_glue 106 = .ok (.getfield 10, 3) := by decide +kernel
theorem dX8_glue_109 : decode cX8_glue 109 = .ok (.aload_n 0, 1) := by decide +kernel
theorem dX8_glue_110 : decode cX8_glue 110 = .ok (.getfield 27, 3) := by decide +kernel
theorem dX8_glue_113 : decode cX8_glue 113 = .ok (.iload_n 1, 1) := by decide +kernel
theorem dX8_glue_114 : decode cX8_glue 114 = .ok (.aaload, 1) := by decide +kernel
theorem dX8_glue_115 : decode cX8_glue 115 = .ok (.aload_n 0, 1) := by decide +kernel
theorem dX8_glue_116 : decode cX8_glue 116 = .ok (.getfield 27, 3) := by decide +kernel
theorem dX8_glue_119 : decode cX8_glue 119 = .ok (.iload_n 2, 1) := by decide +kernel
theorem dX8_glue_120 : decode cX8_glue 120 = .ok (.aaload, 1) := by decide +kernel
theorem dX8_glue_121 : decode cX8_glue 121 = .ok (.invokevirtual 180, 3) := by decide +kernel
theorem dX8_glue_124 : decode cX8_glue 124 = .ok (.invokevirtual 112, 3) := by decide +kernel
theorem dX8_glue_127 : decode cX8_glue 127 = .ok (.pop, 1) := by decide +kernel
theorem dX8_glue_128 : decode cX8_glue 128 = .ok (.aload_n 0, 1) := by decide +kernel
theorem dX8_glue_129 : decode cX8_glue 129 = .ok (.getfield 27, 3) := by decide +kernel
theorem dX8_glue_132 : decode cX8_glue 132 = .ok (.iload_n 2, 1) := by decide +kernel
theorem dX8_glue_133 : decode cX8_glue 133 = .ok (.aconst_null, 1) := by decide +kernel
theorem dX8_glue_134 : decode cX8_glue 134 = .ok (.aastore, 1) := by decide +kernel
theorem dX8_glue_135 : decode cX8_glue 135 = .ok (.iload_n 3, 1) := by decide +kernel
theorem dX8_glue_136 : decode cX8_glue 136 = .ok (.iload 4, 2) := by decide +kernel
theorem dX8_glue_138 : decode cX8_glue 138 = .ok (.iadd, 1) := by decide +kernel
theorem dX8_glue_139 : decode cX8_glue 139 = .ok (.ireturn, 1) := by decide +kernel
set_option maxRecDepth 20000 in
theorem ggX8_share_X8_isMap : GoodIn wsX8_share wsX8_isMap := goodIn_r _ [5, 6, 7, 4, 8] (by decide +kernel) (by decide +kernel)
set_option maxRecDepth 20000 in
theorem gX8_share_X8_isMap : GoodIn wsX8_share (va_wsS RX8 75 yX8_isMap wsX8_isMap) := goodIn_app (goodIn_of _ (by decide +kernel)) ggX8_share_X8_isMap
set_option maxRecDepth 20000 in
theorem ggX8_share_X8_bad : GoodIn wsX8_share wsX8_bad := goodIn_r _ [12, 13, 14, 37, 38, 39, 40, 41, 42, 43, 44, 45, 46, 47, 48, 49, 50] (by decide +kernel) (by decide +kernel)
set_option maxRecDepth 20000 in
theorem gX8_share_X8_bad : GoodIn wsX8_share (wsV RX8 85 RX8 yX8_bad wsX8_bad) := goodIn_app (goodIn_of _ (by decide +kernel)) ggX8_share_X8_bad
set_option maxRecDepth 20000 in
theorem ggX8_share_X8_settle : GoodIn wsX8_share wsX8_settle := goodIn_r _ [18, 19, 1, 20, 21, 22, 23, 24, 25, 26, 27, 28, 29, 30, 31, 32, 33, 34, 35, 36, 37, 38, 39, 40, 41, 42, 43, 44, 45, 46, 47, 48, 49, 50, 51, 52, 53, 54, 55, 56, 57, 58, 59, 60, 61, 62] (by decide +kernel) (by decide +kernel)
set_option maxRecDepth 20000 in
theorem gX8_share_X8_settle : GoodIn wsX8_share (wsV RX8 112 RX8 yX8_settle wsX8_settle) := goodIn_app (goodIn_of _ (by decide +kernel)) ggX8_share_X8_settle
theorem dX8_share_0 : decode cX8_share 0 = .ok (.iload_n 1, 1) := by decide +kernel
theorem dX8_share_1 : decode cX8_share 1 = .ok (.invokestatic 75, 3) := by decide +kernel
theorem dX8_share_4 : decode cX8_share 4 = .ok (.ifCond .eq 10, 3) := by decide +kernel
theorem dX8_share_7 : decode cX8_share 7 = .ok (.iload_n 2, 1) := by decide +kernel
theorem dX8_share_8 : decode cX8_share 8 = .ok (.invokestatic 75, 3) := by decide +kernel
theorem dX8_share_11 : decode cX8_share 11 = .ok (.ifCond .ne 8, 3) := by decide +kernel
theorem dX8_share_14 : decode cX8_share 14 = .ok (.aload_n 0, 1) := by decide +kernel
theorem dX8_share_15 : decode cX8_share 15 = .ok (.invokevirtual 85, 3) := by decide +kernel
theorem dX8_share_18 : decode cX8_share 18 = .ok (.ireturn, 1) := by decide +kernel
theorem dX8_share_19 : decode cX8_share 19 = .ok (.aload_n 0, 1) := by decide +kernel
theorem dX8_share_20 : decode cX8_share 20 = .ok (.iload_n 2, 1) := by decide +kernel
theorem dX8_share_21 : decode cX8_share 21 = .ok (.aload_n 0, 1) := by decide +kernel
theorem dX8_share_22 : decode cX8_share 22 = .ok (.getfield 27, 3) := by decide +kernel
theorem dX8_share_25 : decode cX8_share 25 = .ok (.iload_n 1, 1) := by decide +kernel
theorem dX8_share_26 : decode cX8_share 26 = .ok (.aaload, 1) := by decide +kernel
theorem dX8_share_27 : decode cX8_share 27 = .ok (.invokevirtual 112, 3) := by decide +kernel
theorem dX8_share_30 : decode cX8_share 30 = .ok (.ireturn, 1) := by decide +kernel
set_option maxRecDepth 20000 in
theorem ggX8_mix_X8_isIn : GoodIn wsX8_mix wsX8_isIn := goodIn_r _ [6] (by decide +kernel) (by decide +kernel)
set_option maxRecDepth 20000 in
theorem gX8_mix_X8_isIn : GoodIn wsX8_mix (va_wsS RX8 122 yX8_isIn wsX8_isIn) := goodIn_app (goodIn_of _ (by decide +kernel)) ggX8_mix_X8_isIn
set_option maxRecDepth 20000 in
theorem ggX8_mix_X8_isMap : GoodIn wsX8_mix wsX8_isMap := goodIn_r _ [9, 3, 4, 5, 6] (by decide +kernel) (by decide +kernel)
set_option maxRecDepth 20000 in
theorem gX8_mix_X8_isMap : GoodIn wsX8_mix (va_wsS RX8 75 yX8_isMap wsX8_isMap) := goodIn_app (goodIn_of _ (by decide +kernel)) ggX8_mix_X8_isMap
set_option maxRecDepth 20000 in
theorem ggX8_mix_X8_bad : GoodIn wsX8_mix wsX8_bad := goodIn_r _ [13, 14, 15, 168, 169, 170, 171, 172, 173, 174, 175, 176, 177, 178, 179, 180, 181] (by decide +kernel) (by decide +kernel)
set_option maxRecDepth 20000 in
theorem gX8_mix_X8_bad : GoodIn wsX8_mix (wsV RX8 85 RX8 yX8_bad wsX8_bad) := goodIn_app (goodIn_of _ (by decide +kernel)) ggX8_mix_X8_bad
set_option maxRecDepth 20000 in
theorem ggX8_mix_X8_startChange : GoodIn wsX8_mix wsX8_startChange := goodIn_r _ [19, 20, 2, 21, 22, 23, 24, 25, 26, 27, 28, 29, 30, 31, 32, 33, 34, 35, 36, 37, 38, 39, 40, 41, 42, 43, 44, 45, 46, 47, 48, 49, 50, 51, 52, 53, 54, 55, 168, 169, 170, 171, 172, 173, 174, 175, 176, 177, 178, 179, 180, 181, 182, 183, 184, 185, 186, 187, 188, 189, 190, 191, 192, 193, 194, 195, 196, 197, 198, 199, 200, 201] (by decide +kernel) (by decide +kernel)
set_option maxRecDepth 20000 in
theorem gX8_mix_X8_startChange : GoodIn wsX8_mix (wsV RX8 105 RX8 yX8_startChange wsX8_startChange) := goodIn_app (goodIn_of _ (by decide +kernel)) ggX8_mix_X8_startChange
set_option maxRecDepth 20000 in
theorem ggX8_mix_X1_blend : GoodIn wsX8_mix wsX1_blend := goodIn_r _ [60, 61, 62, 63, 64, 65, 66, 67, 68, 29, 69, 70, 46, 47, 71, 72, 73, 74, 75, 76, 77, 78, 79, 80, 81, 82, 83, 84, 85, 86, 87, 88, 89, 90, 91, 52, 92, 93, 53, 55, 54, 31, 94, 95, 96, 97, 98, 99, 100, 101, 102, 103, 104, 105, 106, 107, 108, 109, 110, 111, 112, 113, 114, 57, 58, 59, 115, 116, 117, 118, 119, 120, 121, 122, 123, 124, 125, 126, 127, 128, 129, 130, 131, 132, 133, 134, 135, 136, 137, 138, 139, 5, 140, 141, 142, 143, 144, 145, 146, 147, 193, 194, 195, 196, 197, 198, 199, 200, 201, 202, 203, 189, 190, 191, 192] (by decide +kernel) (by decide +kernel)
set_option maxRecDepth 20000 in
theorem gX8_mix_X1_blend : GoodIn wsX8_mix (wsV RX8 184 RX1 yX1_blend wsX1_blend) := goodIn_app (goodIn_of _ (by decide +kernel)) ggX8_mix_X1_blend
set_option maxRecDepth 20000 in
theorem ggX8_mix_X3_countOf : GoodIn wsX8_mix wsX3_countOf := goodIn_r _ [83, 84, 193, 194, 195, 196, 197, 198, 199, 200, 201] (by decide +kernel) (by decide +kernel)
set_option maxRecDepth 20000 in
theorem gX8_mix_X3_countOf : GoodIn wsX8_mix (va_wsS RX8 93 yX3_countOf wsX3_countOf) := goodIn_app (goodIn_of _ (by decide +kernel)) ggX8_mix_X3_countOf
set_option maxRecDepth 20000 in
theorem ggX8_mix_X8_full : GoodIn wsX8_mix wsX8_full := goodIn_r _ [152, 153, 154, 168, 169, 170, 171, 172, 173, 174, 175, 176, 177, 178, 179, 180, 181] (by decide +kernel) (by decide +kernel)
set_option maxRecDepth 20000 in
theorem gX8_mix_X8_full : GoodIn wsX8_mix (wsV RX8 97 RX8 yX8_full wsX8_full) := goodIn_app (goodIn_of _ (by decide +kernel)) ggX8_mix_X8_full
set_option maxRecDepth 20000 in
theorem ggX8_mix_X8_settle : GoodIn wsX8_mix wsX8_settle := goodIn_r _ [158, 21, 2, 159, 160, 161, 162, 163, 164, 165, 166, 167, 144, 137, 145, 148, 82, 79, 83, 84, 168, 169, 170, 171, 172, 173, 174, 175, 176, 177, 178, 179, 180, 181, 182, 183, 184, 193, 194, 195, 196, 197, 198, 199, 200, 201] (by decide +kernel) (by decide +kernel)
set_option maxRecDepth 20000 in
theorem gX8_mix_X8_settle : GoodIn wsX8_mix (wsV RX8 112 RX8 yX8_settle wsX8_settle) := goodIn_app (goodIn_of _ (by decide +kernel)) ggX8_mix_X8_settle
theorem dX8_mix_0 : decode cX8_mix 0 = .ok (.iload_n 1, 1) := by decide +kernel
theorem dX8_mix_1 : decode cX8_mix 1 = .ok (.iconst 0, 1) := by decide +kernel
theorem dX8_mix_2 : decode cX8_mix 2 = .ok (.iconst 3, 1) := by decide +kernel
theorem dX8_mix_3 : decode cX8_mix 3 = .ok (.invokestatic 122, 3) := by decide +kernel
theorem dX8_mix_6 : decode cX8_mix 6 = .ok (.ifCond .eq 25, 3) := by decide +kernel
theorem dX8_mix_9 : decode cX8_mix 9 = .ok (.iload_n 2, 1) := by decide +kernel
theorem dX8_mix_10 : decode cX8_mix 10 = .ok (.invokestatic 75, 3) := by decide +kernel
theorem dX8_mix_13 : decode cX8_mix 13 = .ok (.ifCond .eq 18, 3) := by decide +kernel
theorem dX8_mix_16 : decode cX8_mix 16 = .ok (.iload_n 3, 1) := by decide +kernel
theorem dX8_mix_17 : decode cX8_mix 17 = .ok (.invokestatic 75, 3) := by decide +kernel
theorem dX8_mix_20 : decode cX8_mix 20 = .ok (.ifCond .eq 11, 3) := by decide +kernel
theorem dX8_mix_23 : decode cX8_mix 23 = .ok (.iload 4, 2) := by decide +kernel
theorem dX8_mix_25 : decode cX8_mix 25 = .ok (.invokestatic 75, 3) := by decide +kernel
theorem dX8_mix_28 : decode cX8_mix 28 = .ok (.ifCond .ne 8, 3) := by decide +kernel
theorem dX8_mix_31 : decode cX8_mix 31 = .ok (.aload_n 0, 1) := by decide +kernel
theorem dX8_mix_32 : decode cX8_mix 32 = .ok (.invokevirtual 85, 3) := by decide +kernel
theorem dX8_mix_35 : decode cX8_mix 35 = .ok (.ireturn, 1) := by decide +kernel
theorem dX8_mix_36 : decode cX8_mix 36 = .ok (.aload_n 0, 1) := by decide +kernel
theorem dX8_mix_37 : decode cX8_mix 37 = .ok (.invokevirtual 105, 3) := by decide +kernel
theorem dX8_mix_40 : decode cX8_mix 40 = .ok (.aload_n 0, 1) := by decide +kernel
theorem dX8_mix_41 : decode cX8_mix 41 = .ok (.getfield 21, 3) := by decide +kernel
theorem dX8_mix_44 : decode cX8_mix 44 = .ok (.iload_n 1, 1) := by decide +kernel
theorem dX8_mix_45 : decode cX8_mix 45 = .ok (.aload_n 0, 1) := by decide +kernel
theorem dX8_mix_46 : decode cX8_mix 46 = .ok (.getfield 27, 3) := by decide +kernel
theorem dX8_mix_49 : decode cX8_mix 49 = .ok (.iload_n 2, 1) := by decide +kernel
theorem dX8_mix_50 : decode cX8_mix 50 = .ok (.aaload, 1) := by decide +kernel
theorem dX8_mix_51 : decode cX8_mix 51 = .ok (.aload_n 0, 1) := by decide +kernel
theorem dX8_mix_52 : decode cX8_mix 52 = .ok (.getfield 27, 3) := by decide +kernel
theorem dX8_mix_55 : decode cX8_mix 55 = .ok (.iload_n 3, 1) := by decide +kernel
theorem dX8_mix_56 : decode cX8_mix 56 = .ok (.aaload, 1) := by decide +kernel
theorem dX8_mix_57 : decode cX8_mix 57 = .ok (.iconst 0, 1) := by decide +kernel
theorem dX8_mix_58 : decode cX8_mix 58 = .ok (.invokevirtual 184, 3) := by decide +kernel
theorem dX8_mix_61 : decode cX8_mix 61 = .ok (.astore 5, 2) := by decide +kernel
theorem dX8_mix_63 : decode cX8_mix 63 = .ok (.aload 5, 2) := by decide +kernel
theorem dX8_mix_65 : decode cX8_mix 65 = .ok (.invokestatic 93, 3) := by decide +kernel
theorem dX8_mix_68 : decode cX8_mix 68 = .ok (.sipush 200, 3) := by decide +kernel
theorem dX8_mix_71 : decode cX8_mix 71 = .ok (.if_icmp .le 10, 3) := by decide +kernel
theorem dX8_mix_74 : decode cX8_mix 74 = .ok (.aload_n 0, 1) := by decide +kernel
theorem dX8_mix_75 : decode cX8_mix 75 = .ok (.invokevirtual 97, 3) := by decide +kernel
theorem dX8_mix_78 : decode cX8_mix 78 = .ok (.goto 11, 3) := by decide +kernel
theorem dX8_mix_81 : decode cX8_mix 81 = .ok (.aload_n 0, 1) := by decide +kernel
theorem dX8_mix_82 : decode cX8_mix 82 = .ok (.iload 4, 2) := by decide +kernel
theorem dX8_mix_84 : decode cX8_mix 84 = .ok (.aload 5, 2) := by decide +kernel
theorem dX8_mix_86 : decode cX8_mix 86 = .ok (.invokevirtual 112, 3) := by decide +kernel
theorem dX8_mix_89 : decode cX8_mix 89 = .ok (.ireturn, 1) := by decide +kernel
set_option maxRecDepth 20000 in
theorem ggX8_fill_X8_isMap : GoodIn wsX8_fill wsX8_isMap := goodIn_r _ [5, 6, 7, 4, 8] (by decide +kernel) (by decide +kernel)
set_option maxRecDepth 20000 in
theorem gX8_fill_X8_isMap : GoodIn wsX8_fill (va_wsS RX8 75 yX8_isMap wsX8_isMap) := goodIn_app (goodIn_of _ (by decide +kernel)) ggX8_fill_X8_isMap
set_option maxRecDepth 20000 in
theorem ggX8_fill_X8_isKey : GoodIn wsX8_fill wsX8_isKey := goodIn_r _ [11, 6, 7, 4, 8] (by decide +kernel) (by decide +kernel)
set_option maxRecDepth 20000 in
theorem gX8_fill_X8_isKey : GoodIn wsX8_fill (va_wsS RX8 79 yX8_isKey wsX8_isKey) := goodIn_app (goodIn_of _ (by decide +kernel)) ggX8_fill_X8_isKey
set_option maxRecDepth 20000 in
theorem ggX8_fill_X8_isIn : GoodIn wsX8_fill wsX8_isIn := goodIn_r _ [8] (by decide +kernel) (by decide +kernel)
set_option maxRecDepth 20000 in
theorem gX8_fill_X8_isIn : GoodIn wsX8_fill (va_wsS RX8 122 yX8_isIn wsX8_isIn) := goodIn_app (goodIn_of _ (by decide +kernel)) ggX8_fill_X8_isIn
set_option maxRecDepth 20000 in
theorem ggX8_fill_X8_bad : GoodIn wsX8_fill wsX8_bad := goodIn_r _ [15, 16, 17, 165, 166, 167, 168, 169, 170, 171, 172, 173, 174, 175, 176, 177, 178] (by decide +kernel) (by decide +kernel)
set_option maxRecDepth 20000 in
theorem gX8_fill_X8_bad : GoodIn wsX8_fill (wsV RX8 85 RX8 yX8_bad wsX8_bad) := goodIn_app (goodIn_of _ (by decide +kernel)) ggX8_fill_X8_bad
set_option maxRecDepth 20000 in
theorem ggX8_fill_X8_no : GoodIn wsX8_fill wsX8_no := goodIn_r _ [21, 22, 23, 165, 166, 167, 168, 169, 170, 171, 172, 173, 174, 175, 176, 177, 178] (by decide +kernel) (by decide +kernel)
set_option maxRecDepth 20000 in
theorem gX8_fill_X8_no : GoodIn wsX8_fill (wsV RX8 116 RX8 yX8_no wsX8_no) := goodIn_app (goodIn_of _ (by decide +kernel)) ggX8_fill_X8_no
set_option maxRecDepth 20000 in
theorem ggX8_fill_X6_empty : GoodIn wsX8_fill wsX6_empty := goodIn_r _ [28, 29, 179, 180, 181] (by decide +kernel) (by decide +kernel)
set_option maxRecDepth 20000 in
theorem gX8_fill_X6_empty : GoodIn wsX8_fill (wsV RX8 188 RX6 yX6_empty wsX6_empty) := goodIn_app (goodIn_of _ (by decide +kernel)) ggX8_fill_X6_empty
set_option maxRecDepth 20000 in
theorem ggX8_fill_X8_held : GoodIn wsX8_fill wsX8_held := goodIn_r _ [32, 33, 34, 35, 36, 37, 38, 39, 40, 41] (by decide +kernel) (by decide +kernel)
set_option maxRecDepth 20000 in
theorem gX8_fill_X8_held : GoodIn wsX8_fill (va_wsS RX8 191 yX8_held wsX8_held) := goodIn_app (goodIn_of _ (by decide +kernel)) ggX8_fill_X8_held
set_option maxRecDepth 20000 in
theorem ggX8_fill_X6_add : GoodIn wsX8_fill wsX6_add := goodIn_r _ [45, 29, 46, 47, 179, 180, 181] (by decide +kernel) (by decide +kernel)
set_option maxRecDepth 20000 in
theorem gX8_fill_X6_add : GoodIn wsX8_fill (wsV RX8 194 RX6 yX6_add wsX6_add) := goodIn_app (goodIn_of _ (by decide +kernel)) ggX8_fill_X6_add
set_option maxRecDepth 20000 in
theorem ggX8_fill_X8_settleRow : GoodIn wsX8_fill wsX8_settleRow := goodIn_r _ [51, 52, 53, 54, 55, 56, 4, 57, 58, 59, 60, 61, 62, 63, 64, 65, 66, 67, 68, 69, 70, 71, 72, 73, 74, 75, 76, 77, 78, 79, 80, 81, 82, 83, 84, 85, 86, 87, 88, 89, 90, 91, 92, 93, 94, 95, 96, 97, 98, 99, 100, 101, 27, 102, 29, 46, 103, 7, 8, 104, 105, 106, 107, 47, 108, 109, 110, 111, 112, 113, 114, 115, 116, 117, 118, 119, 120, 121, 122, 123, 124, 125, 126, 127, 128, 129, 130, 131, 132, 133, 134, 135, 136, 137, 138, 139, 140, 141, 142, 143, 144, 145, 146, 147, 148, 149, 150, 151, 152, 153, 154, 155, 156, 157, 158, 159, 160, 161, 162, 163, 36, 37, 38, 164, 165, 166, 167, 168, 169, 170, 171, 172, 173, 174, 175, 176, 177, 178, 179, 180, 181, 182, 183, 184, 185, 186, 187, 188, 189, 190, 191, 192, 193, 194, 195, 196, 197, 198, 199, 200, 201] (by decide +kernel) (by decide +kernel)
set_option maxRecDepth 20000 in
theorem gX8_fill_X8_settleRow : GoodIn wsX8_fill (wsV RX8 198 RX8 yX8_settleRow wsX8_settleRow) := goodIn_app (goodIn_of _ (by decide +kernel)) ggX8_fill_X8_settleRow
theorem dX8_fill_0 : decode cX8_fill 0 = .ok (.iload_n 1, 1) := by decide +kernel
theorem dX8_fill_1 : decode cX8_fill 1 = .ok (.invokestatic 75, 3) := by decide +kernel
theorem dX8_fill_4 : decode cX8_fill 4 = .ok (.ifCond .eq 32, 3) := by decide +kernel
theorem dX8_fill_7 : decode cX8_fill 7 = .ok (.iload_n 2, 1) := by decide +kernel
theorem dX8_fill_8 : decode cX8_fill 8 = .ok (.invokestatic 79, 3) := by decide +kernel
theorem dX8_fill_11 : decode cX8_fill 11 = .ok (.ifCond .eq 25, 3) := by decide +kernel
theorem dX8_fill_14 : decode cX8_fill 14 = .ok (.iload_n 3, 1) := by decide +kernel
theorem dX8_fill_15 : decode cX8_fill 15 = .ok (.iconst 0, 1) := by decide +kernel
theorem dX8_fill_16 : decode cX8_fill 16 = .ok (.sipush 200, 3) := by decide +kernel
theorem dX8_fill_19 : decode cX8_fill 19 = .ok (.invokestatic 122, 3) := by decide +kernel
theorem dX8_fill_22 : decode cX8_fill 22 = .ok (.ifCond .eq 14, 3) := by decide +kernel
theorem dX8_fill_25 : decode cX8_fill 25 = .ok (.iload 4, 2) := by decide +kernel
theorem dX8_fill_27 : decode cX8_fill 27 = .ok (.iconst 1, 1) := by decide +kernel
theorem dX8_fill_28 : decode cX8_fill 28 = .ok (.bipush 50, 2) := by decide +kernel
theorem dX8_fill_30 : decode cX8_fill 30 = .ok (.invokestatic 122, 3) := by decide +kernel
theorem dX8_fill_33 : decode cX8_fill 33 = .ok (.ifCond .ne 8, 3) := by decide +kernel
theorem dX8_fill_36 : decode cX8_fill 36 = .ok (.aload_n 0, 1) := by decide +kernel
theorem dX8_fill_37 : decode cX8_fill 37 = .ok (.invokevirtual 85, 3) := by decide +kernel
theorem dX8_fill_40 : decode cX8_fill 40 = .ok (.ireturn, 1) := by decide +kernel
theorem dX8_fill_41 : decode cX8_fill 41 = .ok (.iload_n 3, 1) := by decide +kernel
theorem dX8_fill_42 : decode cX8_fill 42 = .ok (.ifCond .le 22, 3) := by decide +kernel
theorem dX8_fill_45 : decode cX8_fill 45 = .ok (.iload_n 2, 1) := by decide +kernel
theorem dX8_fill_46 : decode cX8_fill 46 = .ok (.iload_n 3, 1) := by decide +kernel
theorem dX8_fill_47 : decode cX8_fill 47 = .ok (.iconst 1, 1) := by decide +kernel
theorem dX8_fill_48 : decode cX8_fill 48 = .ok (.isub, 1) := by decide +kernel
theorem dX8_fill_49 : decode cX8_fill 49 = .ok (.iload 4, 2) := by decide +kernel
theorem dX8_fill_51 : decode cX8_fill 51 = .ok (.imul, 1) := by decide +kernel
theorem dX8_fill_52 : decode cX8_fill 52 = .ok (.iadd, 1) := by decide +kernel
theorem dX8_fill_53 : decode cX8_fill 53 = .ok (.sipush 500, 3) := by decide +kernel
theorem dX8_fill_56 : decode cX8_fill 56 = .ok (.if_icmp .le 8, 3) := by decide +kernel
theorem dX8_fill_59 : decode cX8_fill 59 = .ok (.aload_n 0, 1) := by decide +kernel
theorem dX8_fill_60 : decode cX8_fill 60 = .ok (.invokevirtual 116, 3) := by decide +kernel
theorem dX8_fill_63 : decode cX8_fill 63 = .ok (.ireturn, 1) := by decide +kernel
theorem dX8_fill_64 : decode cX8_fill 64 = .ok (.aload_n 0, 1) := by decide +kernel
theorem dX8_fill_65 : decode cX8_fill 65 = .ok (.getfield 68, 3) := by decide +kernel
theorem dX8_fill_68 : decode cX8_fill 68 = .ok (.invokevirtual 188, 3) := by decide +kernel
theorem dX8_fill_71 : decode cX8_fill 71 = .ok (.iconst 0, 1) := by decide +kernel
theorem dX8_fill_72 : decode cX8_fill 72 = .ok (.istore 5, 2) := by decide +kernel
theorem dX8_fill_74 : decode cX8_fill 74 = .ok (.iload 5, 2) := by decide +kernel
theorem dX8_fill_76 : decode cX8_fill 76 = .ok (.iload_n 3, 1) := by decide +kernel
theorem dX8_fill_77 : decode cX8_fill 77 = .ok (.if_icmp .ge 34, 3) := by decide +kernel
theorem dX8_fill_80 : decode cX8_fill 80 = .ok (.iload_n 2, 1) := by decide +kernel
theorem dX8_fill_81 : decode cX8_fill 81 = .ok (.iload 5, 2) := by decide +kernel
theorem dX8_fill_83 : decode cX8_fill 83 = .ok (.iload 4, 2) := by decide +kernel
theorem dX8_fill_85 : decode cX8_fill 85 = .ok (.imul, 1) := by decide +kernel
theorem dX8_fill_86 : decode cX8_fill 86 = .ok (.iadd, 1) := by decide +kernel
theorem dX8_fill_87 : decode cX8_fill 87 = .ok (.istore 6, 2) := by decide +kernel
theorem dX8_fill_89 : decode cX8_fill 89 = .ok (.aload_n 0, 1) := by decide +kernel
theorem dX8_fill_90 : decode cX8_fill 90 = .ok (.getfield 68, 3) := by decide +kernel
theorem dX8_fill_93 : decode cX8_fill 93 = .ok (.iload 6, 2) := by decide +kernel
theorem dX8_fill_95 : decode cX8_fill 95 = .ok (.iload 6, 2) := by decide +kernel
theorem dX8_fill_97 : decode cX8_fill 97 = .ok (.iload_n 2, 1) := by decide +kernel
theorem dX8_fill_98 : decode cX8_fill 98 = .ok (.imul, 1) := by decide +kernel
theorem dX8_fill_99 : decode cX8_fill 99 = .ok (.invokestatic 191, 3) := by decide +kernel
theorem dX8_fill_102 : decode cX8_fill 102 = .ok (.invokevirtual 194, 3) := by decide +kernel
theorem dX8_fill_105 : decode cX8_fill 105 = .ok (.iinc 5 1, 3) := by decide +kernel
theorem dX8_fill_108 : decode cX8_fill 108 = .ok (.goto (-34), 3) := by decide +kernel
theorem dX8_fill_111 : decode cX8_fill 111 = .ok (.aload_n 0, 1) := by decide +kernel
theorem dX8_fill_112 : decode cX8_fill 112 = .ok (.iload_n 1, 1) := by decide +kernel
theorem dX8_fill_113 : decode cX8_fill 113 = .ok (.aload_n 0, 1) := by decide +kernel
theorem dX8_fill_114 : decode cX8_fill 114 = .ok (.getfield 68, 3) := by decide +kernel
theorem dX8_fill_117 : decode cX8_fill 117 = .ok (.invokevirtual 198, 3) := by decide +kernel
theorem dX8_fill_120 : decode cX8_fill 120 = .ok (.ireturn, 1) := by decide +kernel
set_option maxRecDepth 20000 in
theorem ggX8_sieve_X8_isMap : GoodIn wsX8_sieve wsX8_isMap := goodIn_r _ [8, 9, 10, 7, 11] (by decide +kernel) (by decide +kernel)
set_option maxRecDepth 20000 in
theorem gX8_sieve_X8_isMap : GoodIn wsX8_sieve (va_wsS RX8 75 yX8_isMap wsX8_isMap) := goodIn_app (goodIn_of _ (by decide +kernel)) ggX8_sieve_X8_isMap
set_option maxRecDepth 20000 in
theorem ggX8_sieve_X8_isIn : GoodIn wsX8_sieve wsX8_isIn := goodIn_r _ [11] (by decide +kernel) (by decide +kernel)
set_option maxRecDepth 20000 in
theorem gX8_sieve_X8_isIn : GoodIn wsX8_sieve (va_wsS RX8 122 yX8_isIn wsX8_isIn) := goodIn_app (goodIn_of _ (by decide +kernel)) ggX8_sieve_X8_isIn
set_option maxRecDepth 20000 in
theorem ggX8_sieve_X8_isValue : GoodIn wsX8_sieve wsX8_isValue := goodIn_r _ [14, 15, 16, 9, 10, 7, 11] (by decide +kernel) (by decide +kernel)
set_option maxRecDepth 20000 in
theorem gX8_sieve_X8_isValue : GoodIn wsX8_sieve (va_wsS RX8 82 yX8_isValue wsX8_isValue) := goodIn_app (goodIn_of _ (by decide +kernel)) ggX8_sieve_X8_isValue
set_option maxRecDepth 20000 in
theorem ggX8_sieve_X8_bad : GoodIn wsX8_sieve wsX8_bad := goodIn_r _ [20, 21, 22, 171, 172, 173, 174, 175, 176, 177, 178, 179, 180, 181, 182, 183, 184] (by decide +kernel) (by decide +kernel)
set_option maxRecDepth 20000 in
theorem gX8_sieve_X8_bad : GoodIn wsX8_sieve (wsV RX8 85 RX8 yX8_bad wsX8_bad) := goodIn_app (goodIn_of _ (by decide +kernel)) ggX8_sieve_X8_bad
set_option maxRecDepth 20000 in
theorem ggX8_sieve_X6_take : GoodIn wsX8_sieve wsX6_take := goodIn_r _ [27, 28, 29, 30, 31, 26, 32, 33, 34, 35, 36, 37, 38, 39, 40, 41, 42, 185, 186, 187, 188, 189, 190, 191, 192, 193, 194, 195, 196] (by decide +kernel) (by decide +kernel)
set_option maxRecDepth 20000 in
theorem gX8_sieve_X6_take : GoodIn wsX8_sieve (wsV RX8 145 RX6 yX6_take wsX6_take) := goodIn_app (goodIn_of _ (by decide +kernel)) ggX8_sieve_X6_take
set_option maxRecDepth 20000 in
theorem ggX8_sieve_X6_empty : GoodIn wsX8_sieve wsX6_empty := goodIn_r _ [46, 28, 185, 186, 187] (by decide +kernel) (by decide +kernel)
set_option maxRecDepth 20000 in
theorem gX8_sieve_X6_empty : GoodIn wsX8_sieve (wsV RX8 188 RX6 yX6_empty wsX6_empty) := goodIn_app (goodIn_of _ (by decide +kernel)) ggX8_sieve_X6_empty
set_option maxRecDepth 20000 in
theorem ggX8_sieve_X6_keyAt : GoodIn wsX8_sieve wsX6_keyAt := goodIn_r _ [50, 28, 41, 51, 10, 7, 11, 185, 186, 187] (by decide +kernel) (by decide +kernel)
set_option maxRecDepth 20000 in
theorem gX8_sieve_X6_keyAt : GoodIn wsX8_sieve (wsV RX8 156 RX6 yX6_keyAt wsX6_keyAt) := goodIn_app (goodIn_of _ (by decide +kernel)) ggX8_sieve_X6_keyAt
set_option maxRecDepth 20000 in
theorem ggX8_sieve_X6_valueAt : GoodIn wsX8_sieve wsX6_valueAt := goodIn_r _ [55, 28, 42, 51, 10, 7, 11, 185, 186, 187] (by decide +kernel) (by decide +kernel)
set_option maxRecDepth 20000 in
theorem gX8_sieve_X6_valueAt : GoodIn wsX8_sieve (wsV RX8 149 RX6 yX6_valueAt wsX6_valueAt) := goodIn_app (goodIn_of _ (by decide +kernel)) ggX8_sieve_X6_valueAt
set_option maxRecDepth 20000 in
theorem ggX8_sieve_X8_passes : GoodIn wsX8_sieve wsX8_passes := goodIn_r _ [58] (by decide +kernel) (by decide +kernel)
set_option maxRecDepth 20000 in
theorem gX8_sieve_X8_passes : GoodIn wsX8_sieve (va_wsS RX8 202 yX8_passes wsX8_passes) := goodIn_app (goodIn_of _ (by decide +kernel)) ggX8_sieve_X8_passes
set_option maxRecDepth 20000 in
theorem ggX8_sieve_X6_add : GoodIn wsX8_sieve wsX6_add := goodIn_r _ [40, 28, 41, 42, 185, 186, 187] (by decide +kernel) (by decide +kernel)
set_option maxRecDepth 20000 in
theorem gX8_sieve_X6_add : GoodIn wsX8_sieve (wsV RX8 194 RX6 yX6_add wsX6_add) := goodIn_app (goodIn_of _ (by decide +kernel)) ggX8_sieve_X6_add
set_option maxRecDepth 20000 in
theorem ggX8_sieve_X8_settleRow : GoodIn wsX8_sieve wsX8_settleRow := goodIn_r _ [63, 64, 4, 65, 66, 67, 7, 68, 2, 69, 70, 71, 72, 73, 74, 75, 76, 77, 78, 79, 80, 81, 82, 83, 84, 85, 86, 87, 88, 89, 90, 91, 92, 93, 94, 95, 96, 97, 98, 99, 100, 101, 102, 103, 104, 105, 106, 107, 108, 109, 48, 49, 26, 50, 28, 41, 51, 10, 11, 110, 53, 54, 55, 42, 111, 112, 113, 114, 115, 116, 117, 118, 119, 120, 121, 122, 123, 124, 125, 126, 127, 128, 129, 130, 131, 132, 133, 134, 135, 136, 137, 138, 139, 140, 141, 142, 143, 144, 145, 146, 147, 148, 149, 150, 151, 152, 153, 154, 155, 156, 157, 158, 159, 160, 161, 162, 163, 164, 165, 166, 167, 168, 169, 170, 171, 172, 173, 174, 175, 176, 177, 178, 179, 180, 181, 182, 183, 184, 185, 186, 187, 197, 198, 199, 200, 201, 202, 203, 204, 205, 206, 207, 188, 189, 190, 191, 192, 193, 194, 195, 196] (by decide +kernel) (by decide +kernel)
set_option maxRecDepth 20000 in
theorem gX8_sieve_X8_settleRow : GoodIn wsX8_sieve (wsV RX8 198 RX8 yX8_settleRow wsX8_settleRow) := goodIn_app (goodIn_of _ (by decide +kernel)) ggX8_sieve_X8_settleRow
theorem dX8_sieve_0 : decode cX8_sieve 0 = .ok (.iload_n 1, 1) := by decide +kernel
theorem dX8_sieve_1 : decode cX8_sieve 1 = .ok (.invokestatic 75, 3) := by decide +kernel
theorem dX8_sieve_4 : decode cX8_sieve 4 = .ok (.ifCond .eq 27, 3) := by decide +kernel
theorem dX8_sieve_7 : decode cX8_sieve 7 = .ok (.iload_n 2, 1) := by decide +kernel
theorem dX8_sieve_8 : decode cX8_sieve 8 = .ok (.iconst 0, 1) := by decide +kernel
theorem dX8_sieve_9 : decode cX8_sieve 9 = .ok (.iconst 4, 1) := by decide +kernel
theorem dX8_sieve_10 : decode cX8_sieve 10 = .ok (.invokestatic 122, 3) := by decide +kernel
theorem dX8_sieve_13 : decode cX8_sieve 13 = .ok (.ifCond .eq 18, 3) := by decide +kernel
theorem dX8_sieve_16 : decode cX8_sieve 16 = .ok (.iload_n 3, 1) := by decide +kernel
theorem dX8_sieve_17 : decode cX8_sieve 17 = .ok (.invokestatic 82, 3) := by decide +kernel
theorem dX8_sieve_20 : decode cX8_sieve 20 = .ok (.ifCond .eq 11, 3) := by decide +kernel
theorem dX8_sieve_23 : decode cX8_sieve 23 = .ok (.iload 4, 2) := by decide +kernel
theorem dX8_sieve_25 : decode cX8_sieve 25 = .ok (.invokestatic 75, 3) := by decide +kernel
theorem dX8_sieve_28 : decode cX8_sieve 28 = .ok (.ifCond .ne 8, 3) := by decide +kernel
theorem dX8_sieve_31 : decode cX8_sieve 31 = .ok (.aload_n 0, 1) := by decide +kernel
theorem dX8_sieve_32 : decode cX8_sieve 32 = .ok (.invokevirtual 85, 3) := by decide +kernel
theorem dX8_sieve_35 : decode cX8_sieve 35 = .ok (.ireturn, 1) := by decide +kernel
theorem dX8_sieve_36 : decode cX8_sieve 36 = .ok (.aload_n 0, 1) := by decide +kernel
theorem dX8_sieve_37 : decode cX8_sieve 37 = .ok (.getfield 68, 3) := by decide +kernel
theorem dX8_sieve_40 : decode cX8_sieve 40 = .ok (.aload_n 0, 1) := by decide +kernel
theorem dX8_sieve_41 : decode cX8_sieve 41 = .ok (.getfield 27, 3) := by decide +kernel
theorem dX8_sieve_44 : decode cX8_sieve 44 = .ok (.iload_n 1, 1) := by decide +kernel
theorem dX8_sieve_45 : decode cX8_sieve 45 = .ok (.aaload, 1) := by decide +kernel
theorem dX8_sieve_46 : decode cX8_sieve 46 = .ok (.invokevirtual 145, 3) := by decide +kernel
theorem dX8_sieve_49 : decode cX8_sieve 49 = .ok (.aload_n 0, 1) := by decide +kernel
theorem dX8_sieve_50 : decode cX8_sieve 50 = .ok (.getfield 72, 3) := by decide +kernel
theorem dX8_sieve_53 : decode cX8_sieve 53 = .ok (.invokevirtual 188, 3) := by decide +kernel
theorem dX8_sieve_56 : decode cX8_sieve 56 = .ok (.iconst 0, 1) := by decide +kernel
theorem dX8_sieve_57 : decode cX8_sieve 57 = .ok (.istore 5, 2) := by decide +kernel
theorem dX8_sieve_59 : decode cX8_sieve 59 = .ok (.iload 5, 2) := by decide +kernel
theorem dX8_sieve_61 : decode cX8_sieve 61 = .ok (.aload_n 0, 1) := by decide +kernel
theorem dX8_sieve_62 : decode cX8_sieve 62 = .ok (.getfield 68, 3) := by decide +kernel
theorem dX8_sieve_65 : decode cX8_sieve 65 = .ok (.getfield 153, 3) := by decide +kernel
theorem dX8_sieve_68 : decode cX8_sieve 68 = .ok (.if_icmp .ge 54, 3) := by decide +kernel
theorem dX8_sieve_71 : decode cX8_sieve 71 = .ok (.aload_n 0, 1) := by decide +kernel
theorem dX8_sieve_72 : decode cX8_sieve 72 = .ok (.getfield 68, 3) := by decide +kernel
theorem dX8_sieve_75 : decode cX8_sieve 75 = .ok (.iload 5, 2) := by decide +kernel
theorem dX8_sieve_77 : decode cX8_sieve 77 = .ok (.invokevirtual 156, 3) := by decide +kernel
theorem dX8_sieve_80 : decode cX8_sieve 80 = .ok (.istore 6, 2) := by decide +kernel
theorem dX8_sieve_82 : decode cX8_sieve 82 = .ok (.aload_n 0, 1) := by decide +kernel
theorem dX8_sieve_83 : decode cX8_sieve 83 = .ok (.getfield 68, 3) := by decide +kernel
theorem dX8_sieve_86 : decode cX8_sieve 86 = .ok (.iload 5, 2) := by decide +kernel
theorem dX8_sieve_88 : decode cX8_sieve 88 = .ok (.invokevirtual 149, 3) := by decide +kernel
theorem dX8_sieve_91 : decode cX8_sieve 91 = .ok (.istore 7, 2) := by decide +kernel
theorem dX8_sieve_93 : decode cX8_sieve 93 = .ok (.iload_n 2, 1) := by decide +kernel
theorem dX8_sieve_94 : decode cX8_sieve 94 = .ok (.iload_n 3, 1) := by decide +kernel
theorem dX8_sieve_95 : decode cX8_sieve 95 = .ok (.iload 6, 2) := by decide +kernel
theorem dX8_sieve_97 : decode cX8_sieve 97 = .ok (.iload 7, 2) := by decide +kernel
theorem dX8_sieve_99 : decode cX8_sieve 99 = .ok (.invokestatic 202, 3) := by decide +kernel
theorem dX8_sieve_102 : decode cX8_sieve 102 = .ok (.ifCond .eq 14, 3) := by decide +kernel
theorem dX8_sieve_105 : decode cX8_sieve 105 = .ok (.aload_n 0, 1) := by decide +kernel
theorem dX8_sieve_106 : decode cX8_sieve 106 = .ok (.getfield 72, 3) := by decide +kernel
theorem dX8_sieve_109 : decode cX8_sieve 109 = .ok (.iload 6, 2) := by decide +kernel
theorem dX8_sieve_111 : decode cX8_sieve 111 = .ok (.iload 7, 2) := by decide +kernel
theorem dX8_sieve_113 : decode cX8_sieve 113 = .ok (.invokevirtual 194, 3) := by decide +kernel
theorem dX8_sieve_116 : decode cX8_sieve 116 = .ok (.iinc 5 1, 3) := by decide +kernel
theorem dX8_sieve_119 : decode cX8_sieve 119 = .ok (.goto (-60), 3) := by decide +kernel
theorem dX8_sieve_122 : decode cX8_sieve 122 = .ok (.aload_n 0, 1) := by decide +kernel
theorem dX8_sieve_123 : decode cX8_sieve 123 = .ok (.iload 4, 2) := by decide +kernel
theorem dX8_sieve_125 : decode cX8_sieve 125 = .ok (.aload_n 0, 1) := by decide +kernel
theorem dX8_sieve_126 : decode cX8_sieve 126 = .ok (.getfield 72, 3) := by decide +kernel
theorem dX8_sieve_129 : decode cX8_sieve 129 = .ok (.invokevirtual 198, 3) := by decide +kernel
theorem dX8_sieve_132 : decode cX8_sieve 132 = .ok (.ireturn, 1) := by decide +kernel
set_option maxRecDepth 20000 in
theorem ggX8_raise_X8_isMap : GoodIn wsX8_raise wsX8_isMap := goodIn_r _ [8, 9, 10, 7, 11] (by decide +kernel) (by decide +kernel)
set_option maxRecDepth 20000 in
theorem gX8_raise_X8_isMap : GoodIn wsX8_raise (va_wsS RX8 75 yX8_isMap wsX8_isMap) := goodIn_app (goodIn_of _ (by decide +kernel)) ggX8_raise_X8_isMap
set_option maxRecDepth 20000 in
theorem ggX8_raise_X8_isRange : GoodIn wsX8_raise wsX8_isRange := goodIn_r _ [14, 15, 16, 7, 17, 9, 10, 11] (by decide +kernel) (by decide +kernel)
set_option maxRecDepth 20000 in
theorem gX8_raise_X8_isRange : GoodIn wsX8_raise (va_wsS RX8 133 yX8_isRange wsX8_isRange) := goodIn_app (goodIn_of _ (by decide +kernel)) ggX8_raise_X8_isRange
set_option maxRecDepth 20000 in
theorem ggX8_raise_X8_isIn : GoodIn wsX8_raise wsX8_isIn := goodIn_r _ [11] (by decide +kernel) (by decide +kernel)
set_option maxRecDepth 20000 in
theorem gX8_raise_X8_isIn : GoodIn wsX8_raise (va_wsS RX8 122 yX8_isIn wsX8_isIn) := goodIn_app (goodIn_of _ (by decide +kernel)) ggX8_raise_X8_isIn
set_option maxRecDepth 20000 in
theorem ggX8_raise_X8_bad : GoodIn wsX8_raise wsX8_bad := goodIn_r _ [21, 22, 23, 187, 188, 189, 190, 191, 192, 193, 194, 195, 196, 197, 198, 199, 200] (by decide +kernel) (by decide +kernel)
set_option maxRecDepth 20000 in
theorem gX8_raise_X8_bad : GoodIn wsX8_raise (wsV RX8 85 RX8 yX8_bad wsX8_bad) := goodIn_app (goodIn_of _ (by decide +kernel)) ggX8_raise_X8_bad
set_option maxRecDepth 20000 in
theorem ggX8_raise_X6_take : GoodIn wsX8_raise wsX6_take := goodIn_r _ [28, 29, 30, 31, 32, 27, 33, 34, 35, 36, 37, 38, 39, 40, 41, 42, 43, 201, 202, 203, 204, 205, 206, 207, 208, 209, 210, 211, 212] (by decide +kernel) (by decide +kernel)
set_option maxRecDepth 20000 in
theorem gX8_raise_X6_take : GoodIn wsX8_raise (wsV RX8 145 RX6 yX6_take wsX6_take) := goodIn_app (goodIn_of _ (by decide +kernel)) ggX8_raise_X6_take
set_option maxRecDepth 20000 in
theorem ggX8_raise_X6_empty : GoodIn wsX8_raise wsX6_empty := goodIn_r _ [47, 29, 201, 202, 203] (by decide +kernel) (by decide +kernel)
set_option maxRecDepth 20000 in
theorem gX8_raise_X6_empty : GoodIn wsX8_raise (wsV RX8 188 RX6 yX6_empty wsX6_empty) := goodIn_app (goodIn_of _ (by decide +kernel)) ggX8_raise_X6_empty
set_option maxRecDepth 20000 in
theorem ggX8_raise_X6_keyAt : GoodIn wsX8_raise wsX6_keyAt := goodIn_r _ [51, 29, 42, 52, 10, 7, 11, 201, 202, 203] (by decide +kernel) (by decide +kernel)
set_option maxRecDepth 20000 in
theorem gX8_raise_X6_keyAt : GoodIn wsX8_raise (wsV RX8 156 RX6 yX6_keyAt wsX6_keyAt) := goodIn_app (goodIn_of _ (by decide +kernel)) ggX8_raise_X6_keyAt
set_option maxRecDepth 20000 in
theorem ggX8_raise_X6_valueAt : GoodIn wsX8_raise wsX6_valueAt := goodIn_r _ [56, 29, 43, 52, 10, 7, 11, 201, 202, 203] (by decide +kernel) (by decide +kernel)
set_option maxRecDepth 20000 in
theorem gX8_raise_X6_valueAt : GoodIn wsX8_raise (wsV RX8 149 RX6 yX6_valueAt wsX6_valueAt) := goodIn_app (goodIn_of _ (by decide +kernel)) ggX8_raise_X6_valueAt
set_option maxRecDepth 20000 in
theorem ggX8_raise_X8_held : GoodIn wsX8_raise wsX8_held := goodIn_r _ [59, 60, 61, 62, 63, 64, 65, 66, 67, 68] (by decide +kernel) (by decide +kernel)
set_option maxRecDepth 20000 in
theorem gX8_raise_X8_held : GoodIn wsX8_raise (va_wsS RX8 191 yX8_held wsX8_held) := goodIn_app (goodIn_of _ (by decide +kernel)) ggX8_raise_X8_held
set_option maxRecDepth 20000 in
theorem ggX8_raise_X6_add : GoodIn wsX8_raise wsX6_add := goodIn_r _ [41, 29, 42, 43, 201, 202, 203] (by decide +kernel) (by decide +kernel)
set_option maxRecDepth 20000 in
theorem gX8_raise_X6_add : GoodIn wsX8_raise (wsV RX8 194 RX6 yX6_add wsX6_add) := goodIn_app (goodIn_of _ (by decide +kernel)) ggX8_raise_X6_add
set_option maxRecDepth 20000 in
theorem ggX8_raise_X8_settleRow : GoodIn wsX8_raise wsX8_settleRow := goodIn_r _ [73, 74, 4, 75, 76, 77, 7, 78, 2, 79, 80, 81, 82, 83, 84, 85, 86, 87, 88, 89, 90, 91, 92, 93, 94, 95, 96, 97, 98, 99, 100, 101, 102, 103, 104, 105, 106, 107, 108, 109, 110, 111, 112, 113, 114, 115, 116, 117, 118, 119, 49, 50, 27, 51, 29, 42, 52, 10, 11, 120, 54, 55, 56, 43, 121, 122, 123, 124, 125, 126, 127, 128, 129, 130, 131, 132, 133, 134, 135, 136, 137, 138, 139, 140, 141, 142, 143, 144, 145, 146, 147, 148, 149, 150, 151, 152, 153, 154, 155, 156, 157, 158, 159, 160, 161, 162, 163, 164, 165, 166, 167, 168, 169, 170, 171, 172, 173, 174, 175, 176, 63, 64, 65, 177, 187, 188, 189, 190, 191, 192, 193, 194, 195, 196, 197, 198, 199, 200, 201, 202, 203, 213, 214, 215, 216, 217, 218, 219, 220, 221, 222, 223, 204, 205, 206, 207, 208, 209, 210, 211, 212] (by decide +kernel) (by decide +kernel)
set_option maxRecDepth 20000 in
theorem gX8_raise_X8_settleRow : GoodIn wsX8_raise (wsV RX8 198 RX8 yX8_settleRow wsX8_settleRow) := goodIn_app (goodIn_of _ (by decide +kernel)) ggX8_raise_X8_settleRow
set_option maxRecDepth 20000 in
theorem ggX8_raise_X3_countWithin : GoodIn wsX8_raise wsX3_countWithin := goodIn_r _ [180, 181, 182, 129, 183, 184, 185, 186, 131, 132, 133, 134, 204, 205, 206, 207, 208, 209, 210, 211, 212] (by decide +kernel) (by decide +kernel)
set_option maxRecDepth 20000 in
theorem gX8_raise_X3_countWithin : GoodIn wsX8_raise (va_wsS RX8 137 yX3_countWithin wsX3_countWithin) := goodIn_app (goodIn_of _ (by decide +kernel)) ggX8_raise_X3_countWithin
theorem dX8_raise_0 : decode cX8_raise 0 = .ok (.iload_n 1, 1) := by decide +kernel
theorem dX8_raise_1 : decode cX8_raise 1 = .ok (.invokestatic 75, 3) := by decide +kernel
theorem dX8_raise_4 : decode cX8_raise 4 = .ok (.ifCond .eq 25, 3) := by decide +kernel
theorem dX8_raise_7 : decode cX8_raise 7 = .ok (.iload_n 2, 1) := by decide +kernel
theorem dX8_raise_8 : decode cX8_raise 8 = .ok (.iload_n 3, 1) := by decide +kernel
theorem dX8_raise_9 : decode cX8_raise 9 = .ok (.invokestatic 133, 3) := by decide +kernel
theorem dX8_raise_12 : decode cX8_raise 12 = .ok (.ifCond .eq 17, 3) := by decide +kernel
theorem dX8_raise_15 : decode cX8_raise 15 = .ok (.iload 4, 2) := by decide +kernel
theorem dX8_raise_17 : decode cX8_raise 17 = .ok (.sipush (-1000), 3) := by decide +kernel
theorem dX8_raise_20 : decode cX8_raise 20 = .ok (.sipush 1000, 3) := by decide +kernel
theorem dX8_raise_23 : decode cX8_raise 23 = .ok (.invokestatic 122, 3) := by decide +kernel
theorem dX8_raise_26 : decode cX8_raise 26 = .ok (.ifCond .ne 8, 3) := by decide +kernel
theorem dX8_raise_29 : decode cX8_raise 29 = .ok (.aload_n 0, 1) := by decide +kernel
theorem dX8_raise_30 : decode cX8_raise 30 = .ok (.invokevirtual 85, 3) := by decide +kernel
theorem dX8_raise_33 : decode cX8_raise 33 = .ok (.ireturn, 1) := by decide +kernel
theorem dX8_raise_34 : decode cX8_raise 34 = .ok (.aload_n 0, 1) := by decide +kernel
theorem dX8_raise_35 : decode cX8_raise 35 = .ok (.getfield 68, 3) := by decide +kernel
theorem dX8_raise_38 : decode cX8_raise 38 = .ok (.aload_n 0, 1) := by decide +kernel
theorem dX8_raise_39 : decode cX8_raise 39 = .ok (.getfield 27, 3) := by decide +kernel
theorem dX8_raise_42 : decode cX8_raise 42 = .ok (.iload_n 1, 1) := by decide +kernel
theorem dX8_raise_43 : decode cX8_raise 43 = .ok (.aaload, 1) := by decide +kernel
theorem dX8_raise_44 : decode cX8_raise 44 = .ok (.invokevirtual 145, 3) := by decide +kernel
theorem dX8_raise_47 : decode cX8_raise 47 = .ok (.aload_n 0, 1) := by decide +kernel
theorem dX8_raise_48 : decode cX8_raise 48 = .ok (.getfield 72, 3) := by decide +kernel
theorem dX8_raise_51 : decode cX8_raise 51 = .ok (.invokevirtual 188, 3) := by decide +kernel
theorem dX8_raise_54 : decode cX8_raise 54 = .ok (.iconst 0, 1) := by decide +kernel
theorem dX8_raise_55 : decode cX8_raise 55 = .ok (.istore 5, 2) := by decide +kernel
theorem dX8_raise_57 : decode cX8_raise 57 = .ok (.iload 5, 2) := by decide +kernel
theorem dX8_raise_59 : decode cX8_raise 59 = .ok (.aload_n 0, 1) := by decide +kernel
theorem dX8_raise_60 : decode cX8_raise 60 = .ok (.getfield 68, 3) := by decide +kernel
theorem dX8_raise_63 : decode cX8_raise 63 = .ok (.getfield 153, 3) := by decide +kernel
theorem dX8_raise_66 : decode cX8_raise 66 = .ok (.if_icmp .ge 63, 3) := by decide +kernel
theorem dX8_raise_69 : decode cX8_raise 69 = .ok (.aload_n 0, 1) := by decide +kernel
theorem dX8_raise_70 : decode cX8_raise 70 = .ok (.getfield 68, 3) := by decide +kernel
theorem dX8_raise_73 : decode cX8_raise 73 = .ok (.iload 5, 2) := by decide +kernel
theorem dX8_raise_75 : decode cX8_raise 75 = .ok (.invokevirtual 156, 3) := by decide +kernel
theorem dX8_raise_78 : decode cX8_raise 78 = .ok (.istore 6, 2) := by decide +kernel
theorem dX8_raise_80 : decode cX8_raise 80 = .ok (.aload_n 0, 1) := by decide +kernel
theorem dX8_raise_81 : decode cX8_raise 81 = .ok (.getfield 68, 3) := by decide +kernel
theorem dX8_raise_84 : decode cX8_raise 84 = .ok (.iload 5, 2) := by decide +kernel
theorem dX8_raise_86 : decode cX8_raise 86 = .ok (.invokevirtual 149, 3) := by decide +kernel
theorem dX8_raise_89 : decode cX8_raise 89 = .ok (.istore 7, 2) := by decide +kernel
theorem dX8_raise_91 : decode cX8_raise 91 = .ok (.aload_n 0, 1) := by decide +kernel
theorem dX8_raise_92 : decode cX8_raise 92 = .ok (.getfield 72, 3) := by decide +kernel
theorem dX8_raise_95 : decode cX8_raise 95 = .ok (.iload 6, 2) := by decide +kernel
theorem dX8_raise_97 : decode cX8_raise 97 = .ok (.iload 6, 2) := by decide +kernel
theorem dX8_raise_99 : decode cX8_raise 99 = .ok (.iload_n 2, 1) := by decide +kernel
theorem dX8_raise_100 : decode cX8_raise 100 = .ok (.iload_n 3, 1) := by decide +kernel
theorem dX8_raise_101 : decode cX8_raise 101 = .ok (.invokestatic 122, 3) := by decide +kernel
theorem dX8_raise_104 : decode cX8_raise 104 = .ok (.ifCond .eq 14, 3) := by decide +kernel
theorem dX8_raise_107 : decode cX8_raise 107 = .ok (.iload 7, 2) := by decide +kernel
theorem dX8_raise_109 : decode cX8_raise 109 = .ok (.iload 4, 2) := by decide +kernel
theorem dX8_raise_111 : decode cX8_raise 111 = .ok (.iadd, 1) := by decide +kernel
theorem dX8_raise_112 : decode cX8_raise 112 = .ok (.invokestatic 191, 3) := by decide +kernel
theorem dX8_raise_115 : decode cX8_raise 115 = .ok (.goto 5, 3) := by decide +kernel
theorem dX8_raise_118 : decode cX8_raise 118 = .ok (.iload 7, 2) := by decide +kernel
theorem dX8_raise_120 : decode cX8_raise 120 = .ok (.invokevirtual 194, 3) := by decide +kernel
theorem dX8_raise_123 : decode cX8_raise 123 = .ok (.iinc 5 1, 3) := by decide +kernel
theorem dX8_raise_126 : decode cX8_raise 126 = .ok (.goto (-69), 3) := by decide +kernel
theorem dX8_raise_129 : decode cX8_raise 129 = .ok (.aload_n 0, 1) := by decide +kernel
theorem dX8_raise_130 : decode cX8_raise 130 = .ok (.iload_n 1, 1) := by decide +kernel
theorem dX8_raise_131 : decode cX8_raise 131 = .ok (.aload_n 0, 1) := by decide +kernel
theorem dX8_raise_132 : decode cX8_raise 132 = .ok (.getfield 72, 3) := by decide +kernel
theorem dX8_raise_135 : decode cX8_raise 135 = .ok (.invokevirtual 198, 3) := by decide +kernel
theorem dX8_raise_138 : decode cX8_raise 138 = .ok (.pop, 1) := by decide +kernel
theorem dX8_raise_139 : decode cX8_raise 139 = .ok (.aload_n 0, 1) := by decide +kernel
theorem dX8_raise_140 : decode cX8_raise 140 = .ok (.getfield 27, 3) := by decide +kernel
theorem dX8_raise_143 : decode cX8_raise 143 = .ok (.iload_n 1, 1) := by decide +kernel
theorem dX8_raise_144 : decode cX8_raise 144 = .ok (.aaload, 1) := by decide +kernel
theorem dX8_raise_145 : decode cX8_raise 145 = .ok (.iload_n 2, 1) := by decide +kernel
theorem dX8_raise_146 : decode cX8_raise 146 = .ok (.iload_n 3, 1) := by decide +kernel
theorem dX8_raise_147 : decode cX8_raise 147 = .ok (.invokestatic 137, 3) := by decide +kernel
theorem dX8_raise_150 : decode cX8_raise 150 = .ok (.ireturn, 1) := by decide +kernel
set_option maxRecDepth 20000 in
theorem ggX8_slide_X8_isMap : GoodIn wsX8_slide wsX8_isMap := goodIn_r _ [8, 9, 10, 7, 11] (by decide +kernel) (by decide +kernel)
set_option maxRecDepth 20000 in
theorem gX8_slide_X8_isMap : GoodIn wsX8_slide (va_wsS RX8 75 yX8_isMap wsX8_isMap) := goodIn_app (goodIn_of _ (by decide +kernel)) ggX8_slide_X8_isMap
set_option maxRecDepth 20000 in
theorem ggX8_slide_X8_isIn : GoodIn wsX8_slide wsX8_isIn := goodIn_r _ [11] (by decide +kernel) (by decide +kernel)
set_option maxRecDepth 20000 in
theorem gX8_slide_X8_isIn : GoodIn wsX8_slide (va_wsS RX8 122 yX8_isIn wsX8_isIn) := goodIn_app (goodIn_of _ (by decide +kernel)) ggX8_slide_X8_isIn
set_option maxRecDepth 20000 in
theorem ggX8_slide_X8_bad : GoodIn wsX8_slide wsX8_bad := goodIn_r _ [15, 16, 17, 179, 180, 181, 182, 183, 184, 185, 186, 187, 188, 189, 190, 191, 192] (by decide +kernel) (by decide +kernel)
set_option maxRecDepth 20000 in
theorem gX8_slide_X8_bad : GoodIn wsX8_slide (wsV RX8 85 RX8 yX8_bad wsX8_bad) := goodIn_app (goodIn_of _ (by decide +kernel)) ggX8_slide_X8_bad
set_option maxRecDepth 20000 in
theorem ggX8_slide_X3_countOf : GoodIn wsX8_slide wsX3_countOf := goodIn_r _ [21, 22, 196, 197, 198, 199, 200, 201, 202, 203, 204] (by decide +kernel) (by decide +kernel)
set_option maxRecDepth 20000 in
theorem gX8_slide_X3_countOf : GoodIn wsX8_slide (va_wsS RX8 93 yX3_countOf wsX3_countOf) := goodIn_app (goodIn_of _ (by decide +kernel)) ggX8_slide_X3_countOf
set_option maxRecDepth 20000 in
theorem ggX8_slide_X3_keyAt : GoodIn wsX8_slide wsX3_keyAt := goodIn_r _ [25, 26, 27, 28, 29, 30, 19, 20, 21, 22, 196, 197, 198, 199, 200, 201, 202, 203, 204] (by decide +kernel) (by decide +kernel)
set_option maxRecDepth 20000 in
theorem gX8_slide_X3_keyAt : GoodIn wsX8_slide (va_wsS RX8 130 yX3_keyAt wsX3_keyAt) := goodIn_app (goodIn_of _ (by decide +kernel)) ggX8_slide_X3_keyAt
set_option maxRecDepth 20000 in
theorem ggX8_slide_X8_isKey : GoodIn wsX8_slide wsX8_isKey := goodIn_r _ [33, 9, 10, 7, 11] (by decide +kernel) (by decide +kernel)
set_option maxRecDepth 20000 in
theorem gX8_slide_X8_isKey : GoodIn wsX8_slide (va_wsS RX8 79 yX8_isKey wsX8_isKey) := goodIn_app (goodIn_of _ (by decide +kernel)) ggX8_slide_X8_isKey
set_option maxRecDepth 20000 in
theorem ggX8_slide_X8_no : GoodIn wsX8_slide wsX8_no := goodIn_r _ [37, 38, 39, 179, 180, 181, 182, 183, 184, 185, 186, 187, 188, 189, 190, 191, 192] (by decide +kernel) (by decide +kernel)
set_option maxRecDepth 20000 in
theorem gX8_slide_X8_no : GoodIn wsX8_slide (wsV RX8 116 RX8 yX8_no wsX8_no) := goodIn_app (goodIn_of _ (by decide +kernel)) ggX8_slide_X8_no
set_option maxRecDepth 20000 in
theorem ggX8_slide_X6_take : GoodIn wsX8_slide wsX6_take := goodIn_r _ [44, 45, 46, 47, 48, 43, 49, 50, 51, 52, 53, 54, 55, 56, 57, 58, 59, 193, 194, 195, 196, 197, 198, 199, 200, 201, 202, 203, 204] (by decide +kernel) (by decide +kernel)
set_option maxRecDepth 20000 in
theorem gX8_slide_X6_take : GoodIn wsX8_slide (wsV RX8 145 RX6 yX6_take wsX6_take) := goodIn_app (goodIn_of _ (by decide +kernel)) ggX8_slide_X6_take
set_option maxRecDepth 20000 in
theorem ggX8_slide_X6_empty : GoodIn wsX8_slide wsX6_empty := goodIn_r _ [63, 45, 193, 194, 195] (by decide +kernel) (by decide +kernel)
set_option maxRecDepth 20000 in
theorem gX8_slide_X6_empty : GoodIn wsX8_slide (wsV RX8 188 RX6 yX6_empty wsX6_empty) := goodIn_app (goodIn_of _ (by decide +kernel)) ggX8_slide_X6_empty
set_option maxRecDepth 20000 in
theorem ggX8_slide_X6_keyAt : GoodIn wsX8_slide wsX6_keyAt := goodIn_r _ [67, 45, 58, 68, 10, 7, 11, 193, 194, 195] (by decide +kernel) (by decide +kernel)
set_option maxRecDepth 20000 in
theorem gX8_slide_X6_keyAt : GoodIn wsX8_slide (wsV RX8 156 RX6 yX6_keyAt wsX6_keyAt) := goodIn_app (goodIn_of _ (by decide +kernel)) ggX8_slide_X6_keyAt
set_option maxRecDepth 20000 in
theorem ggX8_slide_X6_valueAt : GoodIn wsX8_slide wsX6_valueAt := goodIn_r _ [72, 45, 59, 68, 10, 7, 11, 193, 194, 195] (by decide +kernel) (by decide +kernel)
set_option maxRecDepth 20000 in
theorem gX8_slide_X6_valueAt : GoodIn wsX8_slide (wsV RX8 149 RX6 yX6_valueAt wsX6_valueAt) := goodIn_app (goodIn_of _ (by decide +kernel)) ggX8_slide_X6_valueAt
set_option maxRecDepth 20000 in
theorem ggX8_slide_X6_add : GoodIn wsX8_slide wsX6_add := goodIn_r _ [57, 45, 58, 59, 193, 194, 195] (by decide +kernel) (by decide +kernel)
set_option maxRecDepth 20000 in
theorem gX8_slide_X6_add : GoodIn wsX8_slide (wsV RX8 194 RX6 yX6_add wsX6_add) := goodIn_app (goodIn_of _ (by decide +kernel)) ggX8_slide_X6_add
set_option maxRecDepth 20000 in
theorem ggX8_slide_X8_settleRow : GoodIn wsX8_slide wsX8_settleRow := goodIn_r _ [77, 78, 4, 79, 80, 81, 7, 82, 1, 83, 84, 85, 86, 87, 88, 89, 90, 91, 92, 93, 94, 95, 96, 97, 98, 99, 100, 101, 102, 103, 104, 105, 106, 107, 108, 109, 110, 111, 112, 113, 114, 115, 116, 117, 118, 119, 120, 121, 122, 123, 65, 66, 43, 67, 45, 58, 68, 10, 11, 124, 70, 71, 72, 59, 125, 126, 127, 128, 129, 130, 131, 132, 20, 133, 30, 19, 21, 22, 134, 135, 136, 137, 138, 139, 140, 141, 142, 143, 144, 145, 146, 147, 148, 149, 150, 151, 152, 153, 154, 155, 156, 157, 158, 159, 160, 161, 162, 163, 164, 165, 166, 167, 168, 169, 170, 171, 172, 173, 174, 175, 176, 177, 178, 18, 179, 180, 181, 182, 183, 184, 185, 186, 187, 188, 189, 190, 191, 192, 193, 194, 195, 205, 206, 207, 208, 209, 210, 211, 212, 213, 214, 215, 196, 197, 198, 199, 200, 201, 202, 203, 204] (by decide +kernel) (by decide +kernel)
set_option maxRecDepth 20000 in
theorem gX8_slide_X8_settleRow : GoodIn wsX8_slide (wsV RX8 198 RX8 yX8_settleRow wsX8_settleRow) := goodIn_app (goodIn_of _ (by decide +kernel)) ggX8_slide_X8_settleRow
theorem dX8_slide_0 : decode cX8_slide 0 = .ok (.iload_n 1, 1) := by decide +kernel
theorem dX8_slide_1 : decode cX8_slide 1 = .ok (.invokestatic 75, 3) := by decide +kernel
theorem dX8_slide_4 : decode cX8_slide 4 = .ok (.ifCond .eq 16, 3) := by decide +kernel
theorem dX8_slide_7 : decode cX8_slide 7 = .ok (.iload_n 2, 1) := by decide +kernel
theorem dX8_slide_8 : decode cX8_slide 8 = .ok (.sipush (-1000), 3) := by decide +kernel
theorem dX8_slide_11 : decode cX8_slide 11 = .ok (.sipush 1000, 3) := by decide +kernel
theorem dX8_slide_14 : decode cX8_slide 14 = .ok (.invokestatic 122, 3) := by decide +kernel
theorem dX8_slide_17 : decode cX8_slide 17 = .ok (.ifCond .ne 8, 3) := by decide +kernel
theorem dX8_slide_20 : decode cX8_slide 20 = .ok (.aload_n 0, 1) := by decide +kernel
theorem dX8_slide_21 : decode cX8_slide 21 = .ok (.invokevirtual 85, 3) := by decide +kernel
theorem dX8_slide_24 : decode cX8_slide 24 = .ok (.ireturn, 1) := by decide +kernel
theorem dX8_slide_25 : decode cX8_slide 25 = .ok (.aload_n 0, 1) := by decide +kernel
theorem dX8_slide_26 : decode cX8_slide 26 = .ok (.getfield 27, 3) := by decide +kernel
theorem dX8_slide_29 : decode cX8_slide 29 = .ok (.iload_n 1, 1) := by decide +kernel
theorem dX8_slide_30 : decode cX8_slide 30 = .ok (.aaload, 1) := by decide +kernel
theorem dX8_slide_31 : decode cX8_slide 31 = .ok (.invokestatic 93, 3) := by decide +kernel
theorem dX8_slide_34 : decode cX8_slide 34 = .ok (.istore_n 3, 1) := by decide +kernel
theorem dX8_slide_35 : decode cX8_slide 35 = .ok (.iload_n 3, 1) := by decide +kernel
theorem dX8_slide_36 : decode cX8_slide 36 = .ok (.ifCond .le 46, 3) := by decide +kernel
theorem dX8_slide_39 : decode cX8_slide 39 = .ok (.aload_n 0, 1) := by decide +kernel
theorem dX8_slide_40 : decode cX8_slide 40 = .ok (.getfield 27, 3) := by decide +kernel
theorem dX8_slide_43 : decode cX8_slide 43 = .ok (.iload_n 1, 1) := by decide +kernel
theorem dX8_slide_44 : decode cX8_slide 44 = .ok (.aaload, 1) := by decide +kernel
theorem dX8_slide_45 : decode cX8_slide 45 = .ok (.iconst 0, 1) := by decide +kernel
theorem dX8_slide_46 : decode cX8_slide 46 = .ok (.invokestatic 130, 3) := by decide +kernel
theorem dX8_slide_49 : decode cX8_slide 49 = .ok (.iload_n 2, 1) := by decide +kernel
theorem dX8_slide_50 : decode cX8_slide 50 = .ok (.iadd, 1) := by decide +kernel
theorem dX8_slide_51 : decode cX8_slide 51 = .ok (.invokestatic 79, 3) := by decide +kernel
theorem dX8_slide_54 : decode cX8_slide 54 = .ok (.ifCond .eq 23, 3) := by decide +kernel
theorem dX8_slide_57 : decode cX8_slide 57 = .ok (.aload_n 0, 1) := by decide +kernel
theorem dX8_slide_58 : decode cX8_slide 58 = .ok (.getfield 27, 3) := by decide +kernel
theorem dX8_slide_61 : decode cX8_slide 61 = .ok (.iload_n 1, 1) := by decide +kernel
theorem dX8_slide_62 : decode cX8_slide 62 = .ok (.aaload, 1) := by decide +kernel
theorem dX8_slide_63 : decode cX8_slide 63 = .ok (.iload_n 3, 1) := by decide +kernel
theorem dX8_slide_64 : decode cX8_slide 64 = .ok (.iconst 1, 1) := by decide +kernel
theorem dX8_slide_65 : decode cX8_slide 65 = .ok (.isub, 1) := by decide +kernel
theorem dX8_slide_66 : decode cX8_slide 66 = .ok (.invokestatic 130, 3) := by decide +kernel
theorem dX8_slide_69 : decode cX8_slide 69 = .ok (.iload_n 2, 1) := by decide +kernel
theorem dX8_slide_70 : decode cX8_slide 70 = .ok (.iadd, 1) := by decide +kernel
theorem dX8_slide_71 : decode cX8_slide 71 = .ok (.invokestatic 79, 3) := by decide +kernel
theorem dX8_slide_74 : decode cX8_slide 74 = .ok (.ifCond .ne 8, 3) := by decide +kernel
theorem dX8_slide_77 : decode cX8_slide 77 = .ok (.aload_n 0, 1) := by decide +kernel
theorem dX8_slide_78 : decode cX8_slide 78 = .ok (.invokevirtual 116, 3) := by decide +kernel
theorem dX8_slide_81 : decode cX8_slide 81 = .ok (.ireturn, 1) := by decide +kernel
theorem dX8_slide_82 : decode cX8_slide 82 = .ok (.aload_n 0, 1) := by decide +kernel
theorem dX8_slide_83 : decode cX8_slide 83 = .ok (.getfield 68, 3) := by decide +kernel
theorem dX8_slide_86 : decode cX8_slide 86 = .ok (.aload_n 0, 1) := by decide +kernel
theorem dX8_slide_87 : decode cX8_slide 87 = .ok (.getfield 27, 3) := by decide +kernel
theorem dX8_slide_90 : decode cX8_slide 90 = .ok (.iload_n 1, 1) := by decide +kernel
theorem dX8_slide_91 : decode cX8_slide 91 = .ok (.aaload, 1) := by decide +kernel
theorem dX8_slide_92 : decode cX8_slide 92 = .ok (.invokevirtual 145, 3) := by decide +kernel
theorem dX8_slide_95 : decode cX8_slide 95 = .ok (.aload_n 0, 1) := by decide +kernel
theorem dX8_slide_96 : decode cX8_slide 96 = .ok (.getfield 72, 3) := by decide +kernel
theorem dX8_slide_99 : decode cX8_slide 99 = .ok (.invokevirtual 188, 3) := by decide +kernel
theorem dX8_slide_102 : decode cX8_slide 102 = .ok (.iconst 0, 1) := by decide +kernel
theorem dX8_slide_103 : decode cX8_slide 103 = .ok (.istore 4, 2) := by decide +kernel
theorem dX8_slide_105 : decode cX8_slide 105 = .ok (.iload 4, 2) := by decide +kernel
theorem dX8_slide_107 : decode cX8_slide 107 = .ok (.aload_n 0, 1) := by decide +kernel
theorem dX8_slide_108 : decode cX8_slide 108 = .ok (.getfield 68, 3) := by decide +kernel
theorem dX8_slide_111 : decode cX8_slide 111 = .ok (.getfield 153, 3) := by decide +kernel
theorem dX8_slide_114 : decode cX8_slide 114 = .ok (.if_icmp .ge 36, 3) := by decide +kernel
theorem dX8_slide_117 : decode cX8_slide 117 = .ok (.aload_n 0, 1) := by decide +kernel
theorem dX8_slide_118 : decode cX8_slide 118 = .ok (.getfield 72, 3) := by decide +kernel
theorem dX8_slide_121 : decode cX8_slide 121 = .ok (.aload_n 0, 1) := by decide +kernel
theorem dX8_slide_122 : decode cX8_slide 122 = .ok (.getfield 68, 3) := by decide +kernel
theorem dX8_slide_125 : decode cX8_slide 125 = .ok (.iload 4, 2) := by decide +kernel
theorem dX8_slide_127 : decode cX8_slide 127 = .ok (.invokevirtual 156, 3) := by decide +kernel
theorem dX8_slide_130 : decode cX8_slide 130 = .ok (.iload_n 2, 1) := by decide +kernel
theorem dX8_slide_131 : decode cX8_slide 131 = .ok (.iadd, 1) := by decide +kernel
theorem dX8_slide_132 : decode cX8_slide 132 = .ok (.aload_n 0, 1) := by decide +kernel
theorem dX8_slide_133 : decode cX8_slide 133 = .ok (.getfield 68, 3) := by decide +kernel
theorem dX8_slide_136 : decode cX8_slide 136 = .ok (.iload 4, 2) := by decide +kernel
theorem dX8_slide_138 : decode cX8_slide 138 = .ok (.invokevirtual 149, 3) := by decide +kernel
theorem dX8_slide_141 : decode cX8_slide 141 = .ok (.invokevirtual 194, 3) := by decide +kernel
theorem dX8_slide_144 : decode cX8_slide 144 = .ok (.iinc 4 1, 3) := by decide +kernel
theorem dX8_slide_147 : decode cX8_slide 147 = .ok (.goto (-42), 3) := by decide +kernel
theorem dX8_slide_150 : decode cX8_slide 150 = .ok (.aload_n 0, 1) := by decide +kernel
theorem dX8_slide_151 : decode cX8_slide 151 = .ok (.iload_n 1, 1) := by decide +kernel
theorem dX8_slide_152 : decode cX8_slide 152 = .ok (.aload_n 0, 1) := by decide +kernel
theorem dX8_slide_153 : decode cX8_slide 153 = .ok (.getfield 72, 3) := by decide +kernel
theorem dX8_slide_156 : decode cX8_slide 156 = .ok (.invokevirtual 198, 3) := by decide +kernel
theorem dX8_slide_159 : decode cX8_slide 159 = .ok (.ireturn, 1) := by decide +kernel
set_option maxRecDepth 20000 in
theorem ggX8_zip_X8_isMap : GoodIn wsX8_zip wsX8_isMap := goodIn_r _ [10, 11, 12, 9, 13] (by decide +kernel) (by decide +kernel)
set_option maxRecDepth 20000 in
theorem gX8_zip_X8_isMap : GoodIn wsX8_zip (va_wsS RX8 75 yX8_isMap wsX8_isMap) := goodIn_app (goodIn_of _ (by decide +kernel)) ggX8_zip_X8_isMap
set_option maxRecDepth 20000 in
theorem ggX8_zip_X8_bad : GoodIn wsX8_zip wsX8_bad := goodIn_r _ [17, 18, 19, 155, 156, 157, 158, 159, 160, 161, 162, 163, 164, 165, 166, 167, 168] (by decide +kernel) (by decide +kernel)
set_option maxRecDepth 20000 in
theorem gX8_zip_X8_bad : GoodIn wsX8_zip (wsV RX8 85 RX8 yX8_bad wsX8_bad) := goodIn_app (goodIn_of _ (by decide +kernel)) ggX8_zip_X8_bad
set_option maxRecDepth 20000 in
theorem ggX8_zip_X3_countOf : GoodIn wsX8_zip wsX3_countOf := goodIn_r _ [23, 24, 169, 170, 171, 172, 173, 174, 175, 176, 177] (by decide +kernel) (by decide +kernel)
set_option maxRecDepth 20000 in
theorem gX8_zip_X3_countOf : GoodIn wsX8_zip (va_wsS RX8 93 yX3_countOf wsX3_countOf) := goodIn_app (goodIn_of _ (by decide +kernel)) ggX8_zip_X3_countOf
set_option maxRecDepth 20000 in
theorem ggX8_zip_X6_empty : GoodIn wsX8_zip wsX6_empty := goodIn_r _ [29, 30, 178, 179, 180] (by decide +kernel) (by decide +kernel)
set_option maxRecDepth 20000 in
theorem gX8_zip_X6_empty : GoodIn wsX8_zip (wsV RX8 188 RX6 yX6_empty wsX6_empty) := goodIn_app (goodIn_of _ (by decide +kernel)) ggX8_zip_X6_empty
set_option maxRecDepth 20000 in
theorem ggX8_zip_X3_keyAt : GoodIn wsX8_zip wsX3_keyAt := goodIn_r _ [33, 34, 35, 36, 37, 38, 21, 22, 23, 24, 169, 170, 171, 172, 173, 174, 175, 176, 177] (by decide +kernel) (by decide +kernel)
set_option maxRecDepth 20000 in
theorem gX8_zip_X3_keyAt : GoodIn wsX8_zip (va_wsS RX8 130 yX3_keyAt wsX3_keyAt) := goodIn_app (goodIn_of _ (by decide +kernel)) ggX8_zip_X3_keyAt
set_option maxRecDepth 20000 in
theorem ggX8_zip_X6_add : GoodIn wsX8_zip wsX6_add := goodIn_r _ [42, 30, 43, 44, 178, 179, 180] (by decide +kernel) (by decide +kernel)
set_option maxRecDepth 20000 in
theorem gX8_zip_X6_add : GoodIn wsX8_zip (wsV RX8 194 RX6 yX6_add wsX6_add) := goodIn_app (goodIn_of _ (by decide +kernel)) ggX8_zip_X6_add
set_option maxRecDepth 20000 in
theorem ggX8_zip_X8_settleRow : GoodIn wsX8_zip wsX8_settleRow := goodIn_r _ [48, 49, 50, 51, 52, 53, 9, 54, 1, 55, 56, 57, 58, 59, 60, 61, 62, 63, 64, 65, 66, 67, 68, 69, 70, 71, 72, 73, 74, 75, 76, 77, 78, 79, 80, 81, 82, 83, 84, 85, 86, 87, 88, 89, 90, 91, 92, 93, 94, 95, 96, 97, 28, 98, 30, 43, 99, 12, 13, 100, 101, 102, 103, 44, 104, 105, 106, 107, 108, 109, 110, 111, 22, 112, 38, 21, 23, 24, 113, 114, 115, 116, 117, 118, 119, 120, 121, 122, 123, 124, 125, 126, 127, 128, 129, 130, 131, 132, 133, 134, 135, 136, 137, 138, 139, 140, 141, 142, 143, 144, 145, 146, 147, 148, 149, 150, 151, 152, 153, 154, 3, 4, 5, 20, 155, 156, 157, 158, 159, 160, 161, 162, 163, 164, 165, 166, 167, 168, 178, 179, 180, 181, 182, 183, 184, 185, 186, 187, 188, 189, 190, 191, 169, 170, 171, 172, 173, 174, 175, 176, 177] (by decide +kernel) (by decide +kernel)
set_option maxRecDepth 20000 in
theorem gX8_zip_X8_settleRow : GoodIn wsX8_zip (wsV RX8 198 RX8 yX8_settleRow wsX8_settleRow) := goodIn_app (goodIn_of _ (by decide +kernel)) ggX8_zip_X8_settleRow
theorem dX8_zip_0 : decode cX8_zip 0 = .ok (.iload_n 1, 1) := by decide +kernel
theorem dX8_zip_1 : decode cX8_zip 1 = .ok (.invokestatic 75, 3) := by decide +kernel
theorem dX8_zip_4 : decode cX8_zip 4 = .ok (.ifCond .eq 17, 3) := by decide +kernel
theorem dX8_zip_7 : decode cX8_zip 7 = .ok (.iload_n 2, 1) := by decide +kernel
theorem dX8_zip_8 : decode cX8_zip 8 = .ok (.invokestatic 75, 3) := by decide +kernel
theorem dX8_zip_11 : decode cX8_zip 11 = .ok (.ifCond .eq 10, 3) := by decide +kernel
theorem dX8_zip_14 : decode cX8_zip 14 = .ok (.iload_n 3, 1) := by decide +kernel
theorem dX8_zip_15 : decode cX8_zip 15 = .ok (.invokestatic 75, 3) := by decide +kernel
theorem dX8_zip_18 : decode cX8_zip 18 = .ok (.ifCond .ne 8, 3) := by decide +kernel
theorem dX8_zip_21 : decode cX8_zip 21 = .ok (.aload_n 0, 1) := by decide +kernel
theorem dX8_zip_22 : decode cX8_zip 22 = .ok (.invokevirtual 85, 3) := by decide +kernel
theorem dX8_zip_25 : decode cX8_zip 25 = .ok (.ireturn, 1) := by decide +kernel
theorem dX8_zip_26 : decode cX8_zip 26 = .ok (.aload_n 0, 1) := by decide +kernel
theorem dX8_zip_27 : decode cX8_zip 27 = .ok (.getfield 27, 3) := by decide +kernel
theorem dX8_zip_30 : decode cX8_zip 30 = .ok (.iload_n 1, 1) := by decide +kernel
theorem dX8_zip_31 : decode cX8_zip 31 = .ok (.aaload, 1) := by decide +kernel
theorem dX8_zip_32 : decode cX8_zip 32 = .ok (.invokestatic 93, 3) := by decide +kernel
theorem dX8_zip_35 : decode cX8_zip 35 = .ok (.aload_n 0, 1) := by decide +kernel
theorem dX8_zip_36 : decode cX8_zip 36 = .ok (.getfield 27, 3) := by decide +kernel
theorem dX8_zip_39 : decode cX8_zip 39 = .ok (.iload_n 2, 1) := by decide +kernel
theorem dX8_zip_40 : decode cX8_zip 40 = .ok (.aaload, 1) := by decide +kernel
theorem dX8_zip_41 : decode cX8_zip 41 = .ok (.invokestatic 93, 3) := by decide +kernel
theorem dX8_zip_44 : decode cX8_zip 44 = .ok (.invokestatic 206, 3) := by decide +kernel
theorem dX8_zip_47 : decode cX8_zip 47 = .ok (.istore 4, 2) := by decide +kernel
theorem dX8_zip_49 : decode cX8_zip 49 = .ok (.aload_n 0, 1) := by decide +kernel
theorem dX8_zip_50 : decode cX8_zip 50 = .ok (.getfield 72, 3) := by decide +kernel
theorem dX8_zip_53 : decode cX8_zip 53 = .ok (.invokevirtual 188, 3) := by decide +kernel
theorem dX8_zip_56 : decode cX8_zip 56 = .ok (.iconst 0, 1) := by decide +kernel
theorem dX8_zip_57 : decode cX8_zip 57 = .ok (.istore 5, 2) := by decide +kernel
theorem dX8_zip_59 : decode cX8_zip 59 = .ok (.iload 5, 2) := by decide +kernel
theorem dX8_zip_61 : decode cX8_zip 61 = .ok (.iload 4, 2) := by decide +kernel
theorem dX8_zip_63 : decode cX8_zip 63 = .ok (.if_icmp .ge 38, 3) := by decide +kernel
theorem dX8_zip_66 : decode cX8_zip 66 = .ok (.aload_n 0, 1) := by decide +kernel
theorem dX8_zip_67 : decode cX8_zip 67 = .ok (.getfield 72, 3) := by decide +kernel
theorem dX8_zip_70 : decode cX8_zip 70 = .ok (.aload_n 0, 1) := by decide +kernel
theorem dX8_zip_71 : decode cX8_zip 71 = .ok (.getfield 27, 3) := by decide +kernel
theorem dX8_zip_74 : decode cX8_zip 74 = .ok (.iload_n 1, 1) := by decide +kernel
theorem dX8_zip_75 : decode cX8_zip 75 = .ok (.aaload, 1) := by decide +kernel
theorem dX8_zip_76 : decode cX8_zip 76 = .ok (.iload 5, 2) := by decide +kernel
theorem dX8_zip_78 : decode cX8_zip 78 = .ok (.invokestatic 130, 3) := by decide +kernel
theorem dX8_zip_81 : decode cX8_zip 81 = .ok (.aload_n 0, 1) := by decide +kernel
theorem dX8_zip_82 : decode cX8_zip 82 = .ok (.getfield 27, 3) := by decide +kernel
theorem dX8_zip_85 : decode cX8_zip 85 = .ok (.iload_n 2, 1) := by decide +kernel
theorem dX8_zip_86 : decode cX8_zip 86 = .ok (.aaload, 1) := by decide +kernel
theorem dX8_zip_87 : decode cX8_zip 87 = .ok (.iload 5, 2) := by decide +kernel
theorem dX8_zip_89 : decode cX8_zip 89 = .ok (.invokestatic 130, 3) := by decide +kernel
theorem dX8_zip_92 : decode cX8_zip 92 = .ok (.invokevirtual 194, 3) := by decide +kernel
theorem dX8_zip_95 : decode cX8_zip 95 = .ok (.iinc 5 1, 3) := by decide +kernel
theorem dX8_zip_98 : decode cX8_zip 98 = .ok (.goto (-39), 3) := by decide +kernel
theorem dX8_zip_101 : decode cX8_zip 101 = .ok (.aload_n 0, 1) := by decide +kernel
theorem dX8_zip_102 : decode cX8_zip 102 = .ok (.iload_n 3, 1) := by decide +kernel
theorem dX8_zip_103 : decode cX8_zip 103 = .ok (.aload_n 0, 1) := by decide +kernel
theorem dX8_zip_104 : decode cX8_zip 104 = .ok (.getfield 72, 3) := by decide +kernel
theorem dX8_zip_107 : decode cX8_zip 107 = .ok (.invokevirtual 198, 3) := by decide +kernel
theorem dX8_zip_110 : decode cX8_zip 110 = .ok (.ireturn, 1) := by decide +kernel
set_option maxRecDepth 20000 in
theorem ggX8_clears_X8_isMap : GoodIn wsX8_clears wsX8_isMap := goodIn_r _ [6, 7, 8, 5, 9] (by decide +kernel) (by decide +kernel)
set_option maxRecDepth 20000 in
theorem gX8_clears_X8_isMap : GoodIn wsX8_clears (va_wsS RX8 75 yX8_isMap wsX8_isMap) := goodIn_app (goodIn_of _ (by decide +kernel)) ggX8_clears_X8_isMap
set_option maxRecDepth 20000 in
theorem ggX8_clears_X8_isRange : GoodIn wsX8_clears wsX8_isRange := goodIn_r _ [12, 13, 14, 5, 15, 7, 8, 9] (by decide +kernel) (by decide +kernel)
set_option maxRecDepth 20000 in
theorem gX8_clears_X8_isRange : GoodIn wsX8_clears (va_wsS RX8 133 yX8_isRange wsX8_isRange) := goodIn_app (goodIn_of _ (by decide +kernel)) ggX8_clears_X8_isRange
set_option maxRecDepth 20000 in
theorem ggX8_clears_X8_bad : GoodIn wsX8_clears wsX8_bad := goodIn_r _ [19, 20, 21, 146, 147, 148, 149, 150, 151, 152, 153, 154, 155, 156, 157, 158, 159] (by decide +kernel) (by decide +kernel)
set_option maxRecDepth 20000 in
theorem gX8_clears_X8_bad : GoodIn wsX8_clears (wsV RX8 85 RX8 yX8_bad wsX8_bad) := goodIn_app (goodIn_of _ (by decide +kernel)) ggX8_clears_X8_bad
set_option maxRecDepth 20000 in
theorem ggX8_clears_X3_countWithin : GoodIn wsX8_clears wsX3_countWithin := goodIn_r _ [25, 26, 27, 24, 28, 29, 30, 31, 32, 33, 34, 35, 160, 161, 162, 163, 164, 165, 166, 167, 168] (by decide +kernel) (by decide +kernel)
set_option maxRecDepth 20000 in
theorem gX8_clears_X3_countWithin : GoodIn wsX8_clears (va_wsS RX8 137 yX3_countWithin wsX3_countWithin) := goodIn_app (goodIn_of _ (by decide +kernel)) ggX8_clears_X3_countWithin
set_option maxRecDepth 20000 in
theorem ggX8_clears_X8_startChange : GoodIn wsX8_clears wsX8_startChange := goodIn_r _ [39, 2, 1, 40, 41, 42, 43, 44, 45, 46, 47, 48, 49, 50, 51, 52, 53, 54, 55, 56, 57, 58, 59, 60, 61, 62, 63, 64, 65, 66, 67, 68, 69, 70, 71, 72, 73, 74, 146, 147, 148, 149, 150, 151, 152, 153, 154, 155, 156, 157, 158, 159, 169, 170, 171, 172, 173, 174, 175, 176, 177, 178, 179, 160, 161, 162, 163, 164, 165, 166, 167, 168] (by decide +kernel) (by decide +kernel)
set_option maxRecDepth 20000 in
theorem gX8_clears_X8_startChange : GoodIn wsX8_clears (wsV RX8 105 RX8 yX8_startChange wsX8_startChange) := goodIn_app (goodIn_of _ (by decide +kernel)) ggX8_clears_X8_startChange
set_option maxRecDepth 20000 in
theorem ggX8_clears_X2_without : GoodIn wsX8_clears wsX2_without := goodIn_r _ [78, 79, 80, 81, 48, 82, 83, 65, 66, 84, 85, 86, 87, 88, 89, 90, 24, 91, 32, 33, 34, 35, 92, 93, 94, 95, 96, 97, 98, 71, 99, 100, 72, 74, 73, 50, 101, 102, 103, 104, 105, 106, 107, 108, 109, 110, 111, 112, 113, 114, 115, 116, 117, 118, 119, 120, 121, 122, 123, 124, 125, 126, 127, 128, 160, 161, 162, 163, 164, 165, 166, 167, 168, 176, 177, 178, 179] (by decide +kernel) (by decide +kernel)
set_option maxRecDepth 20000 in
theorem gX8_clears_X2_without : GoodIn wsX8_clears (wsV RX8 119 RX2 yX2_without wsX2_without) := goodIn_app (goodIn_of _ (by decide +kernel)) ggX8_clears_X2_without
set_option maxRecDepth 20000 in
theorem ggX8_clears_X8_settle : GoodIn wsX8_clears wsX8_settle := goodIn_r _ [132, 40, 1, 133, 134, 135, 136, 137, 138, 139, 140, 141, 142, 143, 144, 145, 33, 24, 34, 35, 146, 147, 148, 149, 150, 151, 152, 153, 154, 155, 156, 157, 158, 159, 169, 170, 171, 160, 161, 162, 163, 164, 165, 166, 167, 168] (by decide +kernel) (by decide +kernel)
set_option maxRecDepth 20000 in
theorem gX8_clears_X8_settle : GoodIn wsX8_clears (wsV RX8 112 RX8 yX8_settle wsX8_settle) := goodIn_app (goodIn_of _ (by decide +kernel)) ggX8_clears_X8_settle
theorem dX8_clears_0 : decode cX8_clears 0 = .ok (.iload_n 1, 1) := by decide +kernel
theorem dX8_clears_1 : decode cX8_clears 1 = .ok (.invokestatic 75, 3) := by decide +kernel
theorem dX8_clears_4 : decode cX8_clears 4 = .ok (.ifCond .eq 11, 3) := by decide +kernel
theorem dX8_clears_7 : decode cX8_clears 7 = .ok (.iload_n 2, 1) := by decide +kernel
theorem dX8_clears_8 : decode cX8_clears 8 = .ok (.iload_n 3, 1) := by decide +kernel
theorem dX8_clears_9 : decode cX8_clears 9 = .ok (.invokestatic 133, 3) := by decide +kernel
theorem dX8_clears_12 : decode cX8_clears 12 = .ok (.ifCond .ne 8, 3) := by decide +kernel
theorem dX8_clears_15 : decode cX8_clears 15 = .ok (.aload_n 0, 1) := by decide +kernel
theorem dX8_clears_16 : decode cX8_clears 16 = .ok (.invokevirtual 85, 3) := by decide +kernel
theorem dX8_clears_19 : decode cX8_clears 19 = .ok (.ireturn, 1) := by decide +kernel
theorem dX8_clears_20 : decode cX8_clears 20 = .ok (.aload_n 0, 1) := by decide +kernel
theorem dX8_clears_21 : decode cX8_clears 21 = .ok (.getfield 27, 3) := by decide +kernel
theorem dX8_clears_24 : decode cX8_clears 24 = .ok (.iload_n 1, 1) := by decide +kernel
theorem dX8_clears_25 : decode cX8_clears 25 = .ok (.aaload, 1) := by decide +kernel
theorem dX8_clears_26 : decode cX8_clears 26 = .ok (.iload_n 2, 1) := by decide +kernel
theorem dX8_clears_27 : decode cX8_clears 27 = .ok (.iload_n 3, 1) := by decide +kernel
theorem dX8_clears_28 : decode cX8_clears 28 = .ok (.invokestatic 137, 3) := by decide +kernel
theorem dX8_clears_31 : decode cX8_clears 31 = .ok (.istore 4, 2) := by decide +kernel
theorem dX8_clears_33 : decode cX8_clears 33 = .ok (.aload_n 0, 1) := by decide +kernel
theorem dX8_clears_34 : decode cX8_clears 34 = .ok (.invokevirtual 105, 3) := by decide +kernel
theorem dX8_clears_37 : decode cX8_clears 37 = .ok (.aload_n 0, 1) := by decide +kernel
theorem dX8_clears_38 : decode cX8_clears 38 = .ok (.iload_n 1, 1) := by decide +kernel
theorem dX8_clears_39 : decode cX8_clears 39 = .ok (.aload_n 0, 1) := by decide +kernel
theorem dX8_clears_40 : decode cX8_clears 40 = .ok (.getfield 10, 3) := by decide +kernel
theorem dX8_clears_43 : decode cX8_clears 43 = .ok (.aload_n 0, 1) := by decide +kernel
theorem dX8_clears_44 : decode cX8_clears 44 = .ok (.getfield 27, 3) := by decide +kernel
theorem dX8_clears_47 : decode cX8_clears 47 = .ok (.iload_n 1, 1) := by decide +kernel
theorem dX8_clears_48 : decode cX8_clears 48 = .ok (.aaload, 1) := by decide +kernel
theorem dX8_clears_49 : decode cX8_clears 49 = .ok (.iload_n 2, 1) := by decide +kernel
theorem dX8_clears_50 : decode cX8_clears 50 = .ok (.iload_n 3, 1) := by decide +kernel
theorem dX8_clears_51 : decode cX8_clears 51 = .ok (.invokevirtual 119, 3) := by decide +kernel
theorem dX8_clears_54 : decode cX8_clears 54 = .ok (.invokevirtual 112, 3) := by decide +kernel
theorem dX8_clears_57 : decode cX8_clears 57 = .ok (.pop, 1) := by decide +kernel
theorem dX8_clears_58 : decode cX8_clears 58 = .ok (.iload 4, 2) := by decide +kernel
theorem dX8_clears_60 : decode cX8_clears 60 = .ok (.ireturn, 1) := by decide +kernel
set_option maxRecDepth 20000 in
theorem ggX8_scatter_X8_isMap : GoodIn wsX8_scatter wsX8_isMap := goodIn_r _ [16, 17, 18, 15, 19] (by decide +kernel) (by decide +kernel)
set_option maxRecDepth 20000 in
theorem gX8_scatter_X8_isMap : GoodIn wsX8_scatter (va_wsS RX8 75 yX8_isMap wsX8_isMap) := goodIn_app (goodIn_of _ (by decide +kernel)) ggX8_scatter_X8_isMap
set_option maxRecDepth 20000 in
theorem ggX8_scatter_X8_isIn : GoodIn wsX8_scatter wsX8_isIn := goodIn_r _ [19] (by decide +kernel) (by decide +kernel)
set_option maxRecDepth 20000 in
theorem gX8_scatter_X8_isIn : GoodIn wsX8_scatter (va_wsS RX8 122 yX8_isIn wsX8_isIn) := goodIn_app (goodIn_of _ (by decide +kernel)) ggX8_scatter_X8_isIn
set_option maxRecDepth 20000 in
theorem ggX8_scatter_X8_bad : GoodIn wsX8_scatter wsX8_bad := goodIn_r _ [23, 24, 25, 151, 152, 153, 154, 155, 156, 157, 158, 159, 160, 161, 162, 163, 164] (by decide +kernel) (by decide +kernel)
set_option maxRecDepth 20000 in
theorem gX8_scatter_X8_bad : GoodIn wsX8_scatter (wsV RX8 85 RX8 yX8_bad wsX8_bad) := goodIn_app (goodIn_of _ (by decide +kernel)) ggX8_scatter_X8_bad
set_option maxRecDepth 20000 in
theorem ggX8_scatter_X8_startChange : GoodIn wsX8_scatter wsX8_startChange := goodIn_r _ [29, 10, 2, 30, 31, 32, 33, 34, 35, 36, 37, 38, 39, 40, 41, 42, 43, 44, 45, 46, 47, 48, 49, 50, 51, 52, 53, 54, 55, 56, 57, 58, 59, 60, 61, 62, 63, 64, 151, 152, 153, 154, 155, 156, 157, 158, 159, 160, 161, 162, 163, 164, 165, 166, 167, 168, 169, 170, 171, 172, 173, 174, 175, 176, 177, 178, 179, 180, 181, 182, 183, 184] (by decide +kernel) (by decide +kernel)
set_option maxRecDepth 20000 in
theorem gX8_scatter_X8_startChange : GoodIn wsX8_scatter (wsV RX8 105 RX8 yX8_startChange wsX8_startChange) := goodIn_app (goodIn_of _ (by decide +kernel)) ggX8_scatter_X8_startChange
set_option maxRecDepth 20000 in
theorem ggX8_scatter_X2_without : GoodIn wsX8_scatter wsX2_without := goodIn_r _ [68, 69, 70, 71, 38, 72, 73, 55, 56, 74, 75, 76, 77, 78, 79, 80, 81, 82, 83, 84, 85, 86, 87, 88, 89, 90, 91, 92, 93, 61, 94, 95, 62, 64, 63, 40, 96, 97, 98, 99, 100, 101, 102, 103, 104, 105, 106, 107, 108, 109, 110, 111, 112, 113, 114, 115, 116, 117, 118, 119, 120, 121, 122, 123, 176, 177, 178, 179, 180, 181, 182, 183, 184, 172, 173, 174, 175] (by decide +kernel) (by decide +kernel)
set_option maxRecDepth 20000 in
theorem gX8_scatter_X2_without : GoodIn wsX8_scatter (wsV RX8 119 RX2 yX2_without wsX2_without) := goodIn_app (goodIn_of _ (by decide +kernel)) ggX8_scatter_X2_without
set_option maxRecDepth 20000 in
theorem ggX8_scatter_X2_with : GoodIn wsX8_scatter wsX2_with := goodIn_r _ [127, 69, 70, 71, 38, 72, 73, 55, 56, 74, 75, 76, 77, 78, 79, 80, 81, 82, 83, 84, 85, 86, 87, 88, 89, 90, 91, 92, 93, 61, 94, 95, 62, 64, 63, 40, 96, 97, 98, 99, 100, 101, 102, 103, 104, 105, 106, 107, 108, 109, 110, 111, 112, 113, 114, 115, 116, 117, 118, 119, 176, 177, 178, 179, 180, 181, 182, 183, 184, 172, 173, 174, 175] (by decide +kernel) (by decide +kernel)
set_option maxRecDepth 20000 in
theorem gX8_scatter_X2_with : GoodIn wsX8_scatter (wsV RX8 108 RX2 yX2_with wsX2_with) := goodIn_app (goodIn_of _ (by decide +kernel)) ggX8_scatter_X2_with
set_option maxRecDepth 20000 in
theorem ggX8_scatter_X3_countOf : GoodIn wsX8_scatter wsX3_countOf := goodIn_r _ [85, 86, 176, 177, 178, 179, 180, 181, 182, 183, 184] (by decide +kernel) (by decide +kernel)
set_option maxRecDepth 20000 in
theorem gX8_scatter_X3_countOf : GoodIn wsX8_scatter (va_wsS RX8 93 yX3_countOf wsX3_countOf) := goodIn_app (goodIn_of _ (by decide +kernel)) ggX8_scatter_X3_countOf
set_option maxRecDepth 20000 in
theorem ggX8_scatter_X8_full : GoodIn wsX8_scatter wsX8_full := goodIn_r _ [132, 133, 134, 151, 152, 153, 154, 155, 156, 157, 158, 159, 160, 161, 162, 163, 164] (by decide +kernel) (by decide +kernel)
set_option maxRecDepth 20000 in
theorem gX8_scatter_X8_full : GoodIn wsX8_scatter (wsV RX8 97 RX8 yX8_full wsX8_full) := goodIn_app (goodIn_of _ (by decide +kernel)) ggX8_scatter_X8_full
set_option maxRecDepth 20000 in
theorem ggX8_scatter_X8_settle : GoodIn wsX8_scatter wsX8_settle := goodIn_r _ [138, 30, 2, 139, 140, 141, 142, 143, 144, 145, 146, 147, 148, 149, 150, 128, 84, 81, 85, 86, 151, 152, 153, 154, 155, 156, 157, 158, 159, 160, 161, 162, 163, 164, 165, 166, 167, 176, 177, 178, 179, 180, 181, 182, 183, 184] (by decide +kernel) (by decide +kernel)
set_option maxRecDepth 20000 in
theorem gX8_scatter_X8_settle : GoodIn wsX8_scatter (wsV RX8 112 RX8 yX8_settle wsX8_settle) := goodIn_app (goodIn_of _ (by decide +kernel)) ggX8_scatter_X8_settle
theorem dX8_scatter_0 : decode cX8_scatter 0 = .ok (.iload_n 1, 1) := by decide +kernel
theorem dX8_scatter_1 : decode cX8_scatter 1 = .ok (.invokestatic 75, 3) := by decide +kernel
theorem dX8_scatter_4 : decode cX8_scatter 4 = .ok (.ifCond .eq 23, 3) := by decide +kernel
theorem dX8_scatter_7 : decode cX8_scatter 7 = .ok (.iload_n 2, 1) := by decide +kernel
theorem dX8_scatter_8 : decode cX8_scatter 8 = .ok (.iconst 0, 1) := by decide +kernel
theorem dX8_scatter_9 : decode cX8_scatter 9 = .ok (.ldc 209, 2) := by decide +kernel
theorem dX8_scatter_11 : decode cX8_scatter 11 = .ok (.invokestatic 122, 3) := by decide +kernel
theorem dX8_scatter_14 : decode cX8_scatter 14 = .ok (.ifCond .eq 13, 3) := by decide +kernel
theorem dX8_scatter_17 : decode cX8_scatter 17 = .ok (.iload_n 3, 1) := by decide +kernel
theorem dX8_scatter_18 : decode cX8_scatter 18 = .ok (.iconst 0, 1) := by decide +kernel
theorem dX8_scatter_19 : decode cX8_scatter 19 = .ok (.bipush 100, 2) := by decide +kernel
theorem dX8_scatter_21 : decode cX8_scatter 21 = .ok (.invokestatic 122, 3) := by decide +kernel
theorem dX8_scatter_24 : decode cX8_scatter 24 = .ok (.ifCond .ne 8, 3) := by decide +kernel
theorem dX8_scatter_27 : decode cX8_scatter 27 = .ok (.aload_n 0, 1) := by decide +kernel
theorem dX8_scatter_28 : decode cX8_scatter 28 = .ok (.invokevirtual 85, 3) := by decide +kernel
theorem dX8_scatter_31 : decode cX8_scatter 31 = .ok (.ireturn, 1) := by decide +kernel
theorem dX8_scatter_32 : decode cX8_scatter 32 = .ok (.aload_n 0, 1) := by decide +kernel
theorem dX8_scatter_33 : decode cX8_scatter 33 = .ok (.invokevirtual 105, 3) := by decide +kernel
theorem dX8_scatter_36 : decode cX8_scatter 36 = .ok (.aload_n 0, 1) := by decide +kernel
theorem dX8_scatter_37 : decode cX8_scatter 37 = .ok (.getfield 27, 3) := by decide +kernel
theorem dX8_scatter_40 : decode cX8_scatter 40 = .ok (.iload_n 1, 1) := by decide +kernel
theorem dX8_scatter_41 : decode cX8_scatter 41 = .ok (.aaload, 1) := by decide +kernel
theorem dX8_scatter_42 : decode cX8_scatter 42 = .ok (.astore 4, 2) := by decide +kernel
theorem dX8_scatter_44 : decode cX8_scatter 44 = .ok (.iload_n 2, 1) := by decide +kernel
theorem dX8_scatter_45 : decode cX8_scatter 45 = .ok (.i2l, 1) := by decide +kernel
theorem dX8_scatter_46 : decode cX8_scatter 46 = .ok (.lstore 5, 2) := by decide +kernel
theorem dX8_scatter_48 : decode cX8_scatter 48 = .ok (.iconst 0, 1) := by decide +kernel
theorem dX8_scatter_49 : decode cX8_scatter 49 = .ok (.istore 7, 2) := by decide +kernel
theorem dX8_scatter_51 : decode cX8_scatter 51 = .ok (.iload 7, 2) := by decide +kernel
theorem dX8_scatter_53 : decode cX8_scatter 53 = .ok (.iload_n 3, 1) := by decide +kernel
theorem dX8_scatter_54 : decode cX8_scatter 54 = .ok (.if_icmp .ge 113, 3) := by decide +kernel
theorem dX8_scatter_57 : decode cX8_scatter 57 = .ok (.lload 5, 2) := by decide +kernel
theorem dX8_scatter_59 : decode cX8_scatter 59 = .ok (.ldc2_w 210, 3) := by decide +kernel
theorem dX8_scatter_62 : decode cX8_scatter 62 = .ok (.lmul, 1) := by decide +kernel
theorem dX8_scatter_63 : decode cX8_scatter 63 = .ok (.ldc2_w 212, 3) := by decide +kernel
theorem dX8_scatter_66 : decode cX8_scatter 66 = .ok (.ladd, 1) := by decide +kernel
theorem dX8_scatter_67 : decode cX8_scatter 67 = .ok (.ldc2_w 214, 3) := by decide +kernel
theorem dX8_scatter_70 : decode cX8_scatter 70 = .ok (.lrem, 1) := by decide +kernel
theorem dX8_scatter_71 : decode cX8_scatter 71 = .ok (.lstore 5, 2) := by decide +kernel
theorem dX8_scatter_73 : decode cX8_scatter 73 = .ok (.lload 5, 2) := by decide +kernel
theorem dX8_scatter_75 : decode cX8_scatter 75 = .ok (.ldc2_w 216, 3) := by decide +kernel
theorem dX8_scatter_78 : decode cX8_scatter 78 = .ok (.ldiv, 1) := by decide +kernel
theorem dX8_scatter_79 : decode cX8_scatter 79 = .ok (.ldc2_w 218, 3) := by decide +kernel
theorem dX8_scatter_82 : decode cX8_scatter 82 = .ok (.lrem, 1) := by decide +kernel
theorem dX8_scatter_83 : decode cX8_scatter 83 = .ok (.l2i, 1) := by decide +kernel
theorem dX8_scatter_84 : decode cX8_scatter 84 = .ok (.sipush 500, 3) := by decide +kernel
theorem dX8_scatter_87 : decode cX8_scatter 87 = .ok (.isub, 1) := by decide +kernel
theorem dX8_scatter_88 : decode cX8_scatter 88 = .ok (.istore 8, 2) := by decide +kernel
theorem dX8_scatter_90 : decode cX8_scatter 90 = .ok (.lload 5, 2) := by decide +kernel
theorem dX8_scatter_92 : decode cX8_scatter 92 = .ok (.ldc2_w 220, 3) := by decide +kernel
theorem dX8_scatter_95 : decode cX8_scatter 95 = .ok (.ldiv, 1) := by decide +kernel
theorem dX8_scatter_96 : decode cX8_scatter 96 = .ok (.ldc2_w 222, 3) := by decide +kernel
theorem dX8_scatter_99 : decode cX8_scatter 99 = .ok (.lrem, 1) := by decide +kernel
theorem dX8_scatter_100 : decode cX8_scatter 100 = .ok (.lconst 0, 1) := by decide +kernel
theorem dX8_scatter_101 : decode cX8_scatter 101 = .ok (.lcmp, 1) := by decide +kernel
theorem dX8_scatter_102 : decode cX8_scatter 102 = .ok (.ifCond .ne 19, 3) := by decide +kernel
theorem dX8_scatter_105 : decode cX8_scatter 105 = .ok (.aload_n 0, 1) := by decide +kernel
theorem dX8_scatter_106 : decode cX8_scatter 106 = .ok (.getfield 10, 3) := by decide +kernel
theorem dX8_scatter_109 : decode cX8_scatter 109 = .ok (.aload 4, 2) := by decide +kernel
theorem dX8_scatter_111 : decode cX8_scatter 111 = .ok (.iload 8, 2) := by decide +kernel
theorem dX8_scatter_113 : decode cX8_scatter 113 = .ok (.iload 8, 2) := by decide +kernel
theorem dX8_scatter_115 : decode cX8_scatter 115 = .ok (.invokevirtual 119, 3) := by decide +kernel
theorem dX8_scatter_118 : decode cX8_scatter 118 = .ok (.goto 25, 3) := by decide +kernel
theorem dX8_scatter_121 : decode cX8_scatter 121 = .ok (.aload_n 0, 1) := by decide +kernel
theorem dX8_scatter_122 : decode cX8_scatter 122 = .ok (.getfield 10, 3) := by decide +kernel
theorem dX8_scatter_125 : decode cX8_scatter 125 = .ok (.aload 4, 2) := by decide +kernel
theorem dX8_scatter_127 : decode cX8_scatter 127 = .ok (.iload 8, 2) := by decide +kernel
theorem dX8_scatter_129 : decode cX8_scatter 129 = .ok (.lload 5, 2) := by decide +kernel
theorem dX8_scatter_131 : decode cX8_scatter 131 = .ok (.ldc2_w 224, 3) := by decide +kernel
theorem dX8_scatter_134 : decode cX8_scatter 134 = .ok (.ldiv, 1) := by decide +kernel
theorem dX8_scatter_135 : decode cX8_scatter 135 = .ok (.ldc2_w 226, 3) := by decide +kernel
theorem dX8_scatter_138 : decode cX8_scatter 138 = .ok (.lrem, 1) := by decide +kernel
theorem dX8_scatter_139 : decode cX8_scatter 139 = .ok (.l2i, 1) := by decide +kernel
theorem dX8_scatter_140 : decode cX8_scatter 140 = .ok (.invokevirtual 108, 3) := by decide +kernel
theorem dX8_scatter_143 : decode cX8_scatter 143 = .ok (.astore 4, 2) := by decide +kernel
theorem dX8_scatter_145 : decode cX8_scatter 145 = .ok (.aload 4, 2) := by decide +kernel
theorem dX8_scatter_147 : decode cX8_scatter 147 = .ok (.invokestatic 93, 3) := by decide +kernel
theorem dX8_scatter_150 : decode cX8_scatter 150 = .ok (.sipush 200, 3) := by decide +kernel
theorem dX8_scatter_153 : decode cX8_scatter 153 = .ok (.if_icmp .le 8, 3) := by decide +kernel
theorem dX8_scatter_156 : decode cX8_scatter 156 = .ok (.aload_n 0, 1) := by decide +kernel
theorem dX8_scatter_157 : decode cX8_scatter 157 = .ok (.invokevirtual 97, 3) := by decide +kernel
theorem dX8_scatter_160 : decode cX8_scatter 160 = .ok (.ireturn, 1) := by decide +kernel
theorem dX8_scatter_161 : decode cX8_scatter 161 = .ok (.iinc 7 1, 3) := by decide +kernel
theorem dX8_scatter_164 : decode cX8_scatter 164 = .ok (.goto (-113), 3) := by decide +kernel
theorem dX8_scatter_167 : decode cX8_scatter 167 = .ok (.aload_n 0, 1) := by decide +kernel
theorem dX8_scatter_168 : decode cX8_scatter 168 = .ok (.iload_n 1, 1) := by decide +kernel
theorem dX8_scatter_169 : decode cX8_scatter 169 = .ok (.aload 4, 2) := by decide +kernel
theorem dX8_scatter_171 : decode cX8_scatter 171 = .ok (.invokevirtual 112, 3) := by decide +kernel
theorem dX8_scatter_174 : decode cX8_scatter 174 = .ok (.ireturn, 1) := by decide +kernel
set_option maxRecDepth 20000 in
theorem ggX8_sound_X8_isMap : GoodIn wsX8_sound wsX8_isMap := goodIn_r _ [5, 6, 7, 4, 8] (by decide +kernel) (by decide +kernel)
set_option maxRecDepth 20000 in
theorem gX8_sound_X8_isMap : GoodIn wsX8_sound (va_wsS RX8 75 yX8_isMap wsX8_isMap) := goodIn_app (goodIn_of _ (by decide +kernel)) ggX8_sound_X8_isMap
set_option maxRecDepth 20000 in
theorem ggX8_sound_X8_bad : GoodIn wsX8_sound wsX8_bad := goodIn_r _ [12, 13, 14, 42, 43, 44, 45, 46, 47, 48, 49, 50, 51, 52, 53, 54, 55] (by decide +kernel) (by decide +kernel)
set_option maxRecDepth 20000 in
theorem gX8_sound_X8_bad : GoodIn wsX8_sound (wsV RX8 85 RX8 yX8_bad wsX8_bad) := goodIn_app (goodIn_of _ (by decide +kernel)) ggX8_sound_X8_bad
set_option maxRecDepth 20000 in
theorem ggX8_sound_X2_isWell : GoodIn wsX8_sound wsX2_isWell := goodIn_r _ [18, 19, 20, 21, 22, 23, 24, 25, 26, 27, 28, 29, 30, 31, 32, 33, 34, 35, 36, 37, 38, 39, 17, 40, 41, 16, 56, 57, 58, 59, 60, 61, 62, 63, 64] (by decide +kernel) (by decide +kernel)
set_option maxRecDepth 20000 in
theorem gX8_sound_X2_isWell : GoodIn wsX8_sound (va_wsS RX8 228 yX2_isWell wsX2_isWell) := goodIn_app (goodIn_of _ (by decide +kernel)) ggX8_sound_X2_isWell
theorem dX8_sound_0 : decode cX8_sound 0 = .ok (.iload_n 1, 1) := by decide +kernel
theorem dX8_sound_1 : decode cX8_sound 1 = .ok (.invokestatic 75, 3) := by decide +kernel
theorem dX8_sound_4 : decode cX8_sound 4 = .ok (.ifCond .ne 8, 3) := by decide +kernel
theorem dX8_sound_7 : decode cX8_sound 7 = .ok (.aload_n 0, 1) := by decide +kernel
theorem dX8_sound_8 : decode cX8_sound 8 = .ok (.invokevirtual 85, 3) := by decide +kernel
theorem dX8_sound_11 : decode cX8_sound 11 = .ok (.ireturn, 1) := by decide +kernel
theorem dX8_sound_12 : decode cX8_sound 12 = .ok (.aload_n 0, 1) := by decide +kernel
theorem dX8_sound_13 : decode cX8_sound 13 = .ok (.getfield 27, 3) := by decide +kernel
theorem dX8_sound_16 : decode cX8_sound 16 = .ok (.iload_n 1, 1) := by decide +kernel
theorem dX8_sound_17 : decode cX8_sound 17 = .ok (.aaload, 1) := by decide +kernel
theorem dX8_sound_18 : decode cX8_sound 18 = .ok (.sipush (-501), 3) := by decide +kernel
theorem dX8_sound_21 : decode cX8_sound 21 = .ok (.sipush 501, 3) := by decide +kernel
theorem dX8_sound_24 : decode cX8_sound 24 = .ok (.iconst 0, 1) := by decide +kernel
theorem dX8_sound_25 : decode cX8_sound 25 = .ok (.invokestatic 228, 3) := by decide +kernel
theorem dX8_sound_28 : decode cX8_sound 28 = .ok (.ifCond .eq 7, 3) := by decide +kernel
theorem dX8_sound_31 : decode cX8_sound 31 = .ok (.iconst 1, 1) := by decide +kernel
theorem dX8_sound_32 : decode cX8_sound 32 = .ok (.goto 4, 3) := by decide +kernel
theorem dX8_sound_35 : decode cX8_sound 35 = .ok (.iconst 0, 1) := by decide +kernel
theorem dX8_sound_36 : decode cX8_sound 36 = .ok (.ireturn, 1) := by decide +kernel
set_option maxRecDepth 20000 in
theorem ggX8_mixer_X8_isIn : GoodIn wsX8_mixer wsX8_isIn := goodIn_r _ [6] (by decide +kernel) (by decide +kernel)
set_option maxRecDepth 20000 in
theorem gX8_mixer_X8_isIn : GoodIn wsX8_mixer (va_wsS RX8 122 yX8_isIn wsX8_isIn) := goodIn_app (goodIn_of _ (by decide +kernel)) ggX8_mixer_X8_isIn
set_option maxRecDepth 20000 in
theorem ggX8_mixer_X8_bad : GoodIn wsX8_mixer wsX8_bad := goodIn_r _ [10, 11, 12, 13, 14, 15, 16, 17, 18, 19, 20, 21, 22, 23, 24, 25, 26] (by decide +kernel) (by decide +kernel)
set_option maxRecDepth 20000 in
theorem gX8_mixer_X8_bad : GoodIn wsX8_mixer (wsV RX8 85 RX8 yX8_bad wsX8_bad) := goodIn_app (goodIn_of _ (by decide +kernel)) ggX8_mixer_X8_bad
theorem dX8_mixer_0 : decode cX8_mixer 0 = .ok (.iload_n 1, 1) := by decide +kernel
theorem dX8_mixer_1 : decode cX8_mixer 1 = .ok (.iconst 0, 1) := by decide +kernel
theorem dX8_mixer_2 : decode cX8_mixer 2 = .ok (.iconst 5, 1) := by decide +kernel
theorem dX8_mixer_3 : decode cX8_mixer 3 = .ok (.invokestatic 122, 3) := by decide +kernel
theorem dX8_mixer_6 : decode cX8_mixer 6 = .ok (.ifCond .ne 8, 3) := by decide +kernel
theorem dX8_mixer_9 : decode cX8_mixer 9 = .ok (.aload_n 0, 1) := by decide +kernel
theorem dX8_mixer_10 : decode cX8_mixer 10 = .ok (.invokevirtual 85, 3) := by decide +kernel
theorem dX8_mixer_13 : decode cX8_mixer 13 = .ok (.ireturn, 1) := by decide +kernel
theorem dX8_mixer_14 : decode cX8_mixer 14 = .ok (.aload_n 0, 1) := by decide +kernel
theorem dX8_mixer_15 : decode cX8_mixer 15 = .ok (.getfield 21, 3) := by decide +kernel
theorem dX8_mixer_18 : decode cX8_mixer 18 = .ok (.getfield 232, 3) := by decide +kernel
theorem dX8_mixer_21 : decode cX8_mixer 21 = .ok (.istore_n 2, 1) := by decide +kernel
theorem dX8_mixer_22 : decode cX8_mixer 22 = .ok (.aload_n 0, 1) := by decide +kernel
theorem dX8_mixer_23 : decode cX8_mixer 23 = .ok (.getfield 21, 3) := by decide +kernel
theorem dX8_mixer_26 : decode cX8_mixer 26 = .ok (.iload_n 1, 1) := by decide +kernel
theorem dX8_mixer_27 : decode cX8_mixer 27 = .ok (.putfield 232, 3) := by decide +kernel
theorem dX8_mixer_30 : decode cX8_mixer 30 = .ok (.iload_n 2, 1) := by decide +kernel
theorem dX8_mixer_31 : decode cX8_mixer 31 = .ok (.ireturn, 1) := by decide +kernel
set_option maxRecDepth 20000 in
theorem ggX8_type_X8_isIn : GoodIn wsX8_type wsX8_isIn := goodIn_r _ [6] (by decide +kernel) (by decide +kernel)
set_option maxRecDepth 20000 in
theorem gX8_type_X8_isIn : GoodIn wsX8_type (va_wsS RX8 122 yX8_isIn wsX8_isIn) := goodIn_app (goodIn_of _ (by decide +kernel)) ggX8_type_X8_isIn
set_option maxRecDepth 20000 in
theorem ggX8_type_X8_bad : GoodIn wsX8_type wsX8_bad := goodIn_r _ [10, 11, 12, 19, 20, 21, 22, 23, 24, 25, 26, 27, 28, 29, 30, 31, 32] (by decide +kernel) (by decide +kernel)
set_option maxRecDepth 20000 in
theorem gX8_type_X8_bad : GoodIn wsX8_type (wsV RX8 85 RX8 yX8_bad wsX8_bad) := goodIn_app (goodIn_of _ (by decide +kernel)) ggX8_type_X8_bad
set_option maxRecDepth 20000 in
theorem ggX8_type_X8_full : GoodIn wsX8_type wsX8_full := goodIn_r _ [16, 17, 18, 19, 20, 21, 22, 23, 24, 25, 26, 27, 28, 29, 30, 31, 32] (by decide +kernel) (by decide +kernel)
set_option maxRecDepth 20000 in
theorem gX8_type_X8_full : GoodIn wsX8_type (wsV RX8 97 RX8 yX8_full wsX8_full) := goodIn_app (goodIn_of _ (by decide +kernel)) ggX8_type_X8_full
theorem dX8_type_0 : decode cX8_type 0 = .ok (.iload_n 1, 1) := by decide +kernel
theorem dX8_type_1 : decode cX8_type 1 = .ok (.iconst 0, 1) := by decide +kernel
theorem dX8_type_2 : decode cX8_type 2 = .ok (.bipush 127, 2) := by decide +kernel
theorem dX8_type_4 : decode cX8_type 4 = .ok (.invokestatic 122, 3) := by decide +kernel
theorem dX8_type_7 : decode cX8_type 7 = .ok (.ifCond .ne 8, 3) := by decide +kernel
theorem dX8_type_10 : decode cX8_type 10 = .ok (.aload_n 0, 1) := by decide +kernel
theorem dX8_type_11 : decode cX8_type 11 = .ok (.invokevirtual 85, 3) := by decide +kernel
theorem dX8_type_14 : decode cX8_type 14 = .ok (.ireturn, 1) := by decide +kernel
theorem dX8_type_15 : decode cX8_type 15 = .ok (.aload_n 0, 1) := by decide +kernel
theorem dX8_type_16 : decode cX8_type 16 = .ok (.getfield 235, 3) := by decide +kernel
theorem dX8_type_19 : decode cX8_type 19 = .ok (.bipush 120, 2) := by decide +kernel
theorem dX8_type_21 : decode cX8_type 21 = .ok (.if_icmp .lt 8, 3) := by decide +kernel
theorem dX8_type_24 : decode cX8_type 24 = .ok (.aload_n 0, 1) := by decide +kernel
theorem dX8_type_25 : decode cX8_type 25 = .ok (.invokevirtual 97, 3) := by decide +kernel
theorem dX8_type_28 : decode cX8_type 28 = .ok (.ireturn, 1) := by decide +kernel
theorem dX8_type_29 : decode cX8_type 29 = .ok (.aload_n 0, 1) := by decide +kernel
theorem dX8_type_30 : decode cX8_type 30 = .ok (.getfield 38, 3) := by decide +kernel
theorem dX8_type_33 : decode cX8_type 33 = .ok (.aload_n 0, 1) := by decide +kernel
theorem dX8_type_34 : decode cX8_type 34 = .ok (.getfield 235, 3) := by decide +kernel
theorem dX8_type_37 : decode cX8_type 37 = .ok (.iload_n 1, 1) := by decide +kernel
theorem dX8_type_38 : decode cX8_type 38 = .ok (.i2b, 1) := by decide +kernel
theorem dX8_type_39 : decode cX8_type 39 = .ok (.bastore, 1) := by decide +kernel
theorem dX8_type_40 : decode cX8_type 40 = .ok (.aload_n 0, 1) := by decide +kernel
theorem dX8_type_41 : decode cX8_type 41 = .ok (.dup, 1) := by decide +kernel
theorem dX8_type_42 : decode cX8_type 42 = .ok (.getfield 235, 3) := by decide +kernel
theorem dX8_type_45 : decode cX8_type 45 = .ok (.iconst 1, 1) := by decide +kernel
theorem dX8_type_46 : decode cX8_type 46 = .ok (.iadd, 1) := by decide +kernel
theorem dX8_type_47 : decode cX8_type 47 = .ok (.putfield 235, 3) := by decide +kernel
theorem dX8_type_50 : decode cX8_type 50 = .ok (.aload_n 0, 1) := by decide +kernel
theorem dX8_type_51 : decode cX8_type 51 = .ok (.getfield 235, 3) := by decide +kernel
theorem dX8_type_54 : decode cX8_type 54 = .ok (.ireturn, 1) := by decide +kernel
theorem dX8_clear_0 : decode cX8_clear 0 = .ok (.aload_n 0, 1) := by decide +kernel
theorem dX8_clear_1 : decode cX8_clear 1 = .ok (.getfield 235, 3) := by decide +kernel
theorem dX8_clear_4 : decode cX8_clear 4 = .ok (.istore_n 1, 1) := by decide +kernel
theorem dX8_clear_5 : decode cX8_clear 5 = .ok (.aload_n 0, 1) := by decide +kernel
theorem dX8_clear_6 : decode cX8_clear 6 = .ok (.iconst 0, 1) := by decide +kernel
theorem dX8_clear_7 : decode cX8_clear 7 = .ok (.putfield 235, 3) := by decide +kernel
theorem dX8_clear_10 : decode cX8_clear 10 = .ok (.iload_n 1, 1) := by decide +kernel
theorem dX8_clear_11 : decode cX8_clear 11 = .ok (.ireturn, 1) := by decide +kernel
set_option maxRecDepth 20000 in
theorem ggX8_sums_X5_read : GoodIn wsX8_sums wsX5_read := goodIn_r _ [14, 15, 16, 17, 18, 19, 20, 21, 22, 23, 24, 25, 26, 27, 28, 29, 30, 13, 31, 32, 33, 34, 35, 36, 37, 38, 39, 40, 41, 42, 43, 44, 45, 46, 47, 48, 49, 50, 51, 52, 53, 54, 55, 56, 57, 58, 59, 60, 61, 62, 63, 64, 65, 66, 67, 68, 69, 70, 71, 72, 73, 74, 75, 76, 77, 78, 79, 80, 81, 82, 83, 84, 85, 86, 87, 88, 89, 90, 91, 92, 93, 94, 95, 96, 97, 98, 303, 304, 305, 306, 307, 308, 309, 310, 311, 312, 313, 300, 301, 302] (by decide +kernel) (by decide +kernel)
set_option maxRecDepth 20000 in
theorem gX8_sums_X5_read : GoodIn wsX8_sums (wsV RX8 238 RX5 yX5_read wsX5_read) := goodIn_app (goodIn_of _ (by decide +kernel)) ggX8_sums_X5_read
set_option maxRecDepth 20000 in
theorem ggX8_sums_X0_lay : GoodIn wsX8_sums wsX0_lay := goodIn_r _ [103, 104, 105, 106, 314, 315, 316, 317] (by decide +kernel) (by decide +kernel)
set_option maxRecDepth 20000 in
theorem gX8_sums_X0_lay : GoodIn wsX8_sums (wsV RX8 241 RX0 yX0_lay wsX0_lay) := goodIn_app (goodIn_of _ (by decide +kernel)) ggX8_sums_X0_lay
set_option maxRecDepth 20000 in
theorem ggX8_sums_X8_startChange : GoodIn wsX8_sums wsX8_startChange := goodIn_r _ [110, 111, 4, 8, 112, 3, 113, 114, 115, 116, 117, 118, 119, 120, 121, 122, 123, 124, 125, 126, 127, 128, 129, 130, 131, 132, 133, 134, 135, 136, 137, 138, 139, 140, 141, 142, 143, 144, 286, 287, 288, 289, 290, 291, 292, 293, 294, 295, 296, 297, 298, 299, 318, 319, 320, 314, 315, 316, 317, 321, 322, 323, 324, 325, 326, 327, 328, 329, 330, 331, 332, 333] (by decide +kernel) (by decide +kernel)
set_option maxRecDepth 20000 in
theorem gX8_sums_X8_startChange : GoodIn wsX8_sums (wsV RX8 105 RX8 yX8_startChange wsX8_startChange) := goodIn_app (goodIn_of _ (by decide +kernel)) ggX8_sums_X8_startChange
set_option maxRecDepth 20000 in
theorem ggX8_sums_X4_deedAt : GoodIn wsX8_sums wsX4_deedAt := goodIn_r _ [148, 57, 58, 40, 41, 42, 300, 301, 302] (by decide +kernel) (by decide +kernel)
set_option maxRecDepth 20000 in
theorem gX8_sums_X4_deedAt : GoodIn wsX8_sums (wsV RX8 245 RX4 yX4_deedAt wsX4_deedAt) := goodIn_app (goodIn_of _ (by decide +kernel)) ggX8_sums_X4_deedAt
set_option maxRecDepth 20000 in
theorem ggX8_sums_X4_numberAt : GoodIn wsX8_sums wsX4_numberAt := goodIn_r _ [152, 57, 59, 40, 41, 42, 300, 301, 302] (by decide +kernel) (by decide +kernel)
set_option maxRecDepth 20000 in
theorem gX8_sums_X4_numberAt : GoodIn wsX8_sums (wsV RX8 248 RX4 yX4_numberAt wsX4_numberAt) := goodIn_app (goodIn_of _ (by decide +kernel)) ggX8_sums_X4_numberAt
set_option maxRecDepth 20000 in
theorem ggX8_sums_X0_act : GoodIn wsX8_sums wsX0_act := goodIn_r _ [156, 105, 157, 158, 41, 159, 160, 40, 42, 161, 162, 163, 102, 164, 104, 106, 165, 166, 167, 168, 169, 170, 171, 118, 172, 173, 174, 175, 176, 177, 135, 136, 178, 179, 180, 181, 182, 183, 184, 185, 186, 187, 188, 189, 190, 191, 192, 193, 194, 195, 196, 197, 141, 198, 199, 142, 144, 143, 120, 200, 201, 202, 203, 204, 205, 206, 207, 208, 209, 210, 211, 212, 213, 214, 215, 216, 217, 218, 219, 220, 221, 222, 223, 224, 225, 226, 227, 314, 315, 316, 317, 325, 326, 327, 328, 329, 330, 331, 332, 333, 321, 322, 323, 324] (by decide +kernel) (by decide +kernel)
set_option maxRecDepth 20000 in
theorem gX8_sums_X0_act : GoodIn wsX8_sums (wsV RX8 251 RX0 yX0_act wsX0_act) := goodIn_app (goodIn_of _ (by decide +kernel)) ggX8_sums_X0_act
set_option maxRecDepth 20000 in
theorem ggX8_sums_X0_pop : GoodIn wsX8_sums wsX0_pop := goodIn_r _ [168, 104, 106, 314, 315, 316, 317] (by decide +kernel) (by decide +kernel)
set_option maxRecDepth 20000 in
theorem gX8_sums_X0_pop : GoodIn wsX8_sums (wsV RX8 254 RX0 yX0_pop wsX0_pop) := goodIn_app (goodIn_of _ (by decide +kernel)) ggX8_sums_X0_pop
set_option maxRecDepth 20000 in
theorem ggX8_sums_X1_blend : GoodIn wsX8_sums wsX1_blend := goodIn_r _ [233, 234, 235, 236, 237, 238, 239, 174, 175, 118, 176, 177, 135, 136, 178, 173, 179, 180, 181, 182, 183, 184, 185, 186, 187, 188, 189, 190, 191, 192, 193, 194, 195, 196, 197, 141, 198, 199, 142, 144, 143, 120, 200, 201, 202, 203, 204, 205, 206, 207, 208, 209, 210, 211, 212, 213, 214, 215, 216, 217, 218, 219, 240, 230, 231, 232, 241, 221, 222, 223, 220, 242, 243, 244, 245, 246, 247, 248, 249, 250, 251, 252, 253, 254, 255, 256, 257, 85, 18, 86, 258, 41, 259, 260, 261, 262, 17, 19, 263, 264, 325, 326, 327, 328, 329, 330, 331, 332, 333, 334, 335, 321, 322, 323, 324] (by decide +kernel) (by decide +kernel)
set_option maxRecDepth 20000 in
theorem gX8_sums_X1_blend : GoodIn wsX8_sums (wsV RX8 184 RX1 yX1_blend wsX1_blend) := goodIn_app (goodIn_of _ (by decide +kernel)) ggX8_sums_X1_blend
set_option maxRecDepth 20000 in
theorem ggX8_sums_X3_countOf : GoodIn wsX8_sums wsX3_countOf := goodIn_r _ [189, 190, 325, 326, 327, 328, 329, 330, 331, 332, 333] (by decide +kernel) (by decide +kernel)
set_option maxRecDepth 20000 in
theorem gX8_sums_X3_countOf : GoodIn wsX8_sums (va_wsS RX8 93 yX3_countOf wsX3_countOf) := goodIn_app (goodIn_of _ (by decide +kernel)) ggX8_sums_X3_countOf
set_option maxRecDepth 20000 in
theorem ggX8_sums_X8_full : GoodIn wsX8_sums wsX8_full := goodIn_r _ [269, 270, 271, 286, 287, 288, 289, 290, 291, 292, 293, 294, 295, 296, 297, 298, 299] (by decide +kernel) (by decide +kernel)
set_option maxRecDepth 20000 in
theorem gX8_sums_X8_full : GoodIn wsX8_sums (wsV RX8 97 RX8 yX8_full wsX8_full) := goodIn_app (goodIn_of _ (by decide +kernel)) ggX8_sums_X8_full
set_option maxRecDepth 20000 in
theorem ggX8_sums_X0_push : GoodIn wsX8_sums wsX0_push := goodIn_r _ [164, 104, 106, 314, 315, 316, 317] (by decide +kernel) (by decide +kernel)
set_option maxRecDepth 20000 in
theorem gX8_sums_X0_push : GoodIn wsX8_sums (wsV RX8 258 RX0 yX0_push wsX0_push) := goodIn_app (goodIn_of _ (by decide +kernel)) ggX8_sums_X0_push
set_option maxRecDepth 20000 in
theorem ggX8_sums_X7_leave : GoodIn wsX8_sums wsX7_leave := goodIn_r _ [277, 278, 279, 280, 281, 17, 18, 19, 318, 319, 320] (by decide +kernel) (by decide +kernel)
set_option maxRecDepth 20000 in
theorem gX8_sums_X7_leave : GoodIn wsX8_sums (wsV RX8 170 RX7 yX7_leave wsX7_leave) := goodIn_app (goodIn_of _ (by decide +kernel)) ggX8_sums_X7_leave
set_option maxRecDepth 20000 in
theorem ggX8_sums_X0_bring : GoodIn wsX8_sums wsX0_bring := goodIn_r _ [285, 105, 314, 315, 316, 317] (by decide +kernel) (by decide +kernel)
set_option maxRecDepth 20000 in
theorem gX8_sums_X0_bring : GoodIn wsX8_sums (wsV RX8 261 RX0 yX0_bring wsX0_bring) := goodIn_app (goodIn_of _ (by decide +kernel)) ggX8_sums_X0_bring
theorem dX8_sums_0 : decode cX8_sums 0 = .ok (.aload_n 0, 1) := by decide +kernel
theorem dX8_sums_1 : decode cX8_sums 1 = .ok (.getfield 54, 3) := by decide +kernel
theorem dX8_sums_4 : decode cX8_sums 4 = .ok (.aload_n 0, 1) := by decide +kernel
theorem dX8_sums_5 : decode cX8_sums 5 = .ok (.getfield 235, 3) := by decide +kernel
theorem dX8_sums_8 : decode cX8_sums 8 = .ok (.invokevirtual 238, 3) := by decide +kernel
theorem dX8_sums_11 : decode cX8_sums 11 = .ok (.istore_n 1, 1) := by decide +kernel
theorem dX8_sums_12 : decode cX8_sums 12 = .ok (.iload_n 1, 1) := by decide +kernel
theorem dX8_sums_13 : decode cX8_sums 13 = .ok (.iconst (-1), 1) := by decide +kernel
theorem dX8_sums_14 : decode cX8_sums 14 = .ok (.if_icmp .eq 8, 3) := by decide +kernel
theorem dX8_sums_17 : decode cX8_sums 17 = .ok (.bipush (-10), 2) := by decide +kernel
theorem dX8_sums_19 : decode cX8_sums 19 = .ok (.iload_n 1, 1) := by decide +kernel
theorem dX8_sums_20 : decode cX8_sums 20 = .ok (.isub, 1) := by decide +kernel
theorem dX8_sums_21 : decode cX8_sums 21 = .ok (.ireturn, 1) := by decide +kernel
theorem dX8_sums_22 : decode cX8_sums 22 = .ok (.aload_n 0, 1) := by decide +kernel
theorem dX8_sums_23 : decode cX8_sums 23 = .ok (.getfield 61, 3) := by decide +kernel
theorem dX8_sums_26 : decode cX8_sums 26 = .ok (.aload_n 0, 1) := by decide +kernel
theorem dX8_sums_27 : decode cX8_sums 27 = .ok (.getfield 27, 3) := by decide +kernel
theorem dX8_sums_30 : decode cX8_sums 30 = .ok (.invokevirtual 241, 3) := by decide +kernel
theorem dX8_sums_33 : decode cX8_sums 33 = .ok (.iconst 0, 1) := by decide +kernel
theorem dX8_sums_34 : decode cX8_sums 34 = .ok (.istore_n 2, 1) := by decide +kernel
theorem dX8_sums_35 : decode cX8_sums 35 = .ok (.iload_n 2, 1) := by decide +kernel
theorem dX8_sums_36 : decode cX8_sums 36 = .ok (.aload_n 0, 1) := by decide +kernel
theorem dX8_sums_37 : decode cX8_sums 37 = .ok (.getfield 45, 3) := by decide +kernel
theorem dX8_sums_40 : decode cX8_sums 40 = .ok (.getfield 244, 3) := by decide +kernel
theorem dX8_sums_43 : decode cX8_sums 43 = .ok (.if_icmp .ge 100, 3) := by decide +kernel
theorem dX8_sums_46 : decode cX8_sums 46 = .ok (.aload_n 0, 1) := by decide +kernel
theorem dX8_sums_47 : decode cX8_sums 47 = .ok (.invokevirtual 105, 3) := by decide +kernel
theorem dX8_sums_50 : decode cX8_sums 50 = .ok (.aload_n 0, 1) := by decide +kernel
theorem dX8_sums_51 : decode cX8_sums 51 = .ok (.getfield 45, 3) := by decide +kernel
theorem dX8_sums_54 : decode cX8_sums 54 = .ok (.iload_n 2, 1) := by decide +kernel
theorem dX8_sums_55 : decode cX8_sums 55 = .ok (.invokevirtual 245, 3) := by decide +kernel
theorem dX8_sums_58 : decode cX8_sums 58 = .ok (.istore_n 3, 1) := by decide +kernel
theorem dX8_sums_59 : decode cX8_sums 59 = .ok (.iload_n 3, 1) := by decide +kernel
theorem dX8_sums_60 : decode cX8_sums 60 = .ok (.iconst 3, 1) := by decide +kernel
theorem dX8_sums_61 : decode cX8_sums 61 = .ok (.if_icmp .le 22, 3) := by decide +kernel
theorem dX8_sums_64 : decode cX8_sums 64 = .ok (.aload_n 0, 1) := by decide +kernel
theorem dX8_sums_65 : decode cX8_sums 65 = .ok (.getfield 61, 3) := by decide +kernel
theorem dX8_sums_68 : decode cX8_sums 68 = .ok (.iload_n 3, 1) := by decide +kernel
theorem dX8_sums_69 : decode cX8_sums 69 = .ok (.aload_n 0, 1) := by decide +kernel
theorem dX8_sums_70 : decode cX8_sums 70 = .ok (.getfield 45, 3) := by decide +kernel
theorem dX8_sums_73 : decode cX8_sums 73 = .ok (.iload_n 2, 1) := by decide +kernel
theorem dX8_sums_74 : decode cX8_sums 74 = .ok (.invokevirtual 248, 3) := by decide +kernel
theorem dX8_sums_77 : decode cX8_sums 77 = .ok (.invokevirtual 251, 3) := by decide +kernel
theorem dX8_sums_80 : decode cX8_sums 80 = .ok (.goto 57, 3) := by decide +kernel
theorem dX8_sums_83 : decode cX8_sums 83 = .ok (.aload_n 0, 1) := by decide +kernel
theorem dX8_sums_84 : decode cX8_sums 84 = .ok (.getfield 61, 3) := by decide +kernel
theorem dX8_sums_87 : decode cX8_sums 87 = .ok (.invokevirtual 254, 3) := by decide +kernel
theorem dX8_sums_90 : decode cX8_sums 90 = .ok (.astore 4, 2) := by decide +kernel
theorem dX8_sums_92 : decode cX8_sums 92 = .ok (.aload_n 0, 1) := by decide +kernel
theorem dX8_sums_93 : decode cX8_sums 93 = .ok (.getfield 21, 3) := by decide +kernel
theorem dX8_sums_96 : decode cX8_sums 96 = .ok (.iload_n 3, 1) := by decide +kernel
theorem dX8_sums_97 : decode cX8_sums 97 = .ok (.aload_n 0, 1) := by decide +kernel
theorem dX8_sums_98 : decode cX8_sums 98 = .ok (.getfield 61, 3) := by decide +kernel
theorem dX8_sums_101 : decode cX8_sums 101 = .ok (.invokevirtual 254, 3) := by decide +kernel
theorem dX8_sums_104 : decode cX8_sums 104 = .ok (.aload 4, 2) := by decide +kernel
theorem dX8_sums_106 : decode cX8_sums 106 = .ok (.iconst 0, 1) := by decide +kernel
theorem dX8_sums_107 : decode cX8_sums 107 = .ok (.invokevirtual 184, 3) := by decide +kernel
theorem dX8_sums_110 : decode cX8_sums 110 = .ok (.astore 5, 2) := by decide +kernel
theorem dX8_sums_112 : decode cX8_sums 112 = .ok (.aload 5, 2) := by decide +kernel
theorem dX8_sums_114 : decode cX8_sums 114 = .ok (.invokestatic 93, 3) := by decide +kernel
theorem dX8_sums_117 : decode cX8_sums 117 = .ok (.sipush 200, 3) := by decide +kernel
theorem dX8_sums_120 : decode cX8_sums 120 = .ok (.if_icmp .le 8, 3) := by decide +kernel
theorem dX8_sums_123 : decode cX8_sums 123 = .ok (.aload_n 0, 1) := by decide +kernel
theorem dX8_sums_124 : decode cX8_sums 124 = .ok (.invokevirtual 97, 3) := by decide +kernel
theorem dX8_sums_127 : decode cX8_sums 127 = .ok (.ireturn, 1) := by decide +kernel
theorem dX8_sums_128 : decode cX8_sums 128 = .ok (.aload_n 0, 1) := by decide +kernel
theorem dX8_sums_129 : decode cX8_sums 129 = .ok (.getfield 61, 3) := by decide +kernel
theorem dX8_sums_132 : decode cX8_sums 132 = .ok (.aload 5, 2) := by decide +kernel
theorem dX8_sums_134 : decode cX8_sums 134 = .ok (.invokevirtual 258, 3) := by decide +kernel
theorem dX8_sums_137 : decode cX8_sums 137 = .ok (.iinc 2 1, 3) := by decide +kernel
theorem dX8_sums_140 : decode cX8_sums 140 = .ok (.goto (-105), 3) := by decide +kernel
theorem dX8_sums_143 : decode cX8_sums 143 = .ok (.aload_n 0, 1) := by decide +kernel
theorem dX8_sums_144 : decode cX8_sums 144 = .ok (.getfield 34, 3) := by decide +kernel
theorem dX8_sums_147 : decode cX8_sums 147 = .ok (.aload_n 0, 1) := by decide +kernel
theorem dX8_sums_148 : decode cX8_sums 148 = .ok (.getfield 27, 3) := by decide +kernel
theorem dX8_sums_151 : decode cX8_sums 151 = .ok (.invokevirtual 170, 3) := by decide +kernel
theorem dX8_sums_154 : decode cX8_sums 154 = .ok (.aload_n 0, 1) := by decide +kernel
theorem dX8_sums_155 : decode cX8_sums 155 = .ok (.getfield 61, 3) := by decide +kernel
theorem dX8_sums_158 : decode cX8_sums 158 = .ok (.aload_n 0, 1) := by decide +kernel
theorem dX8_sums_159 : decode cX8_sums 159 = .ok (.getfield 27, 3) := by decide +kernel
theorem dX8_sums_162 : decode cX8_sums 162 = .ok (.invokevirtual 261, 3) := by decide +kernel
theorem dX8_sums_165 : decode cX8_sums 165 = .ok (.aload_n 0, 1) := by decide +kernel
theorem dX8_sums_166 : decode cX8_sums 166 = .ok (.getfield 54, 3) := by decide +kernel
theorem dX8_sums_169 : decode cX8_sums 169 = .ok (.getfield 264, 3) := by decide +kernel
theorem dX8_sums_172 : decode cX8_sums 172 = .ok (.ireturn, 1) := by decide +kernel
set_option maxRecDepth 20000 in
theorem ggX8_back_X8_no : GoodIn wsX8_back wsX8_no := goodIn_r _ [8, 9, 10, 23, 24, 25, 26, 27, 28, 29, 30, 31, 32, 33, 34, 35, 36] (by decide +kernel) (by decide +kernel)
set_option maxRecDepth 20000 in
theorem gX8_back_X8_no : GoodIn wsX8_back (wsV RX8 116 RX8 yX8_no wsX8_no) := goodIn_app (goodIn_of _ (by decide +kernel)) ggX8_back_X8_no
set_option maxRecDepth 20000 in
theorem ggX8_back_X7_bringLast : GoodIn wsX8_back wsX7_bringLast := goodIn_r _ [15, 16, 17, 18, 19, 20, 21, 22, 37, 38, 39] (by decide +kernel) (by decide +kernel)
set_option maxRecDepth 20000 in
theorem gX8_back_X7_bringLast : GoodIn wsX8_back (wsV RX8 270 RX7 yX7_bringLast wsX7_bringLast) := goodIn_app (goodIn_of _ (by decide +kernel)) ggX8_back_X7_bringLast
theorem dX8_back_0 : decode cX8_back 0 = .ok (.aload_n 0, 1) := by decide +kernel
theorem dX8_back_1 : decode cX8_back 1 = .ok (.getfield 34, 3) := by decide +kernel
theorem dX8_back_4 : decode cX8_back 4 = .ok (.getfield 267, 3) := by decide +kernel
theorem dX8_back_7 : decode cX8_back 7 = .ok (.ifCond .ne 8, 3) := by decide +kernel
theorem dX8_back_10 : decode cX8_back 10 = .ok (.aload_n 0, 1) := by decide +kernel
theorem dX8_back_11 : decode cX8_back 11 = .ok (.invokevirtual 116, 3) := by decide +kernel
theorem dX8_back_14 : decode cX8_back 14 = .ok (.ireturn, 1) := by decide +kernel
theorem dX8_back_15 : decode cX8_back 15 = .ok (.aload_n 0, 1) := by decide +kernel
theorem dX8_back_16 : decode cX8_back 16 = .ok (.getfield 34, 3) := by decide +kernel
theorem dX8_back_19 : decode cX8_back 19 = .ok (.aload_n 0, 1) := by decide +kernel
theorem dX8_back_20 : decode cX8_back 20 = .ok (.getfield 27, 3) := by decide +kernel
theorem dX8_back_23 : decode cX8_back 23 = .ok (.invokevirtual 270, 3) := by decide +kernel
theorem dX8_back_26 : decode cX8_back 26 = .ok (.aload_n 0, 1) := by decide +kernel
theorem dX8_back_27 : decode cX8_back 27 = .ok (.getfield 34, 3) := by decide +kernel
theorem dX8_back_30 : decode cX8_back 30 = .ok (.getfield 267, 3) := by decide +kernel
theorem dX8_back_33 : decode cX8_back 33 = .ok (.ireturn, 1) := by decide +kernel
set_option maxRecDepth 20000 in
theorem ggX8_told_X8_entriesOfAll : GoodIn wsX8_told wsX8_entriesOfAll := goodIn_r _ [13, 14, 15, 16, 17, 18, 19, 25, 26, 27, 28, 29, 30, 31, 32, 33, 34, 35, 36, 37, 38, 44, 45, 46, 47, 48, 49, 50, 51, 52] (by decide +kernel) (by decide +kernel)
set_option maxRecDepth 20000 in
theorem gX8_told_X8_entriesOfAll : GoodIn wsX8_told (wsV RX8 282 RX8 yX8_entriesOfAll wsX8_entriesOfAll) := goodIn_app (goodIn_of _ (by decide +kernel)) ggX8_told_X8_entriesOfAll
set_option maxRecDepth 20000 in
theorem ggX8_told_X8_bad : GoodIn wsX8_told wsX8_bad := goodIn_r _ [23, 1, 24, 25, 26, 27, 28, 29, 30, 31, 32, 33, 34, 35, 36, 37, 38] (by decide +kernel) (by decide +kernel)
set_option maxRecDepth 20000 in
theorem gX8_told_X8_bad : GoodIn wsX8_told (wsV RX8 85 RX8 yX8_bad wsX8_bad) := goodIn_app (goodIn_of _ (by decide +kernel)) ggX8_told_X8_bad
theorem dX8_told_0 : decode cX8_told 0 = .ok (.iload_n 1, 1) := by decide +kernel
theorem dX8_told_1 : decode cX8_told 1 = .ok (.tableswitch 84 0 6 #[43, 48, 53, 58, 66, 71, 79], 43) := by decide +kernel
theorem dX8_told_44 : decode cX8_told 44 = .ok (.aload_n 0, 1) := by decide +kernel
theorem dX8_told_45 : decode cX8_told 45 = .ok (.getfield 273, 3) := by decide +kernel
theorem dX8_told_48 : decode cX8_told 48 = .ok (.ireturn, 1) := by decide +kernel
theorem dX8_told_49 : decode cX8_told 49 = .ok (.aload_n 0, 1) := by decide +kernel
theorem dX8_told_50 : decode cX8_told 50 = .ok (.getfield 276, 3) := by decide +kernel
theorem dX8_told_53 : decode cX8_told 53 = .ok (.ireturn, 1) := by decide +kernel
theorem dX8_told_54 : decode cX8_told 54 = .ok (.aload_n 0, 1) := by decide +kernel
theorem dX8_told_55 : decode cX8_told 55 = .ok (.getfield 279, 3) := by decide +kernel
theorem dX8_told_58 : decode cX8_told 58 = .ok (.ireturn, 1) := by decide +kernel
theorem dX8_told_59 : decode cX8_told 59 = .ok (.aload_n 0, 1) := by decide +kernel
theorem dX8_told_60 : decode cX8_told 60 = .ok (.getfield 34, 3) := by decide +kernel
theorem dX8_told_63 : decode cX8_told 63 = .ok (.getfield 267, 3) := by decide +kernel
theorem dX8_told_66 : decode cX8_told 66 = .ok (.ireturn, 1) := by decide +kernel
theorem dX8_told_67 : decode cX8_told 67 = .ok (.aload_n 0, 1) := by decide +kernel
theorem dX8_told_68 : decode cX8_told 68 = .ok (.getfield 235, 3) := by decide +kernel
theorem dX8_told_71 : decode cX8_told 71 = .ok (.ireturn, 1) := by decide +kernel
theorem dX8_told_72 : decode cX8_told 72 = .ok (.aload_n 0, 1) := by decide +kernel
theorem dX8_told_73 : decode cX8_told 73 = .ok (.getfield 21, 3) := by decide +kernel
theorem dX8_told_76 : decode cX8_told 76 = .ok (.getfield 232, 3) := by decide +kernel
theorem dX8_told_79 : decode cX8_told 79 = .ok (.ireturn, 1) := by decide +kernel
theorem dX8_told_80 : decode cX8_told 80 = .ok (.aload_n 0, 1) := by decide +kernel
theorem dX8_told_81 : decode cX8_told 81 = .ok (.invokevirtual 282, 3) := by decide +kernel
theorem dX8_told_84 : decode cX8_told 84 = .ok (.ireturn, 1) := by decide +kernel
theorem dX8_told_85 : decode cX8_told 85 = .ok (.aload_n 0, 1) := by decide +kernel
theorem dX8_told_86 : decode cX8_told 86 = .ok (.invokevirtual 85, 3) := by decide +kernel
theorem dX8_told_89 : decode cX8_told 89 = .ok (.ireturn, 1) := by decide +kernel
set_option maxRecDepth 20000 in
theorem ggX8_digest_X8_told : GoodIn wsX8_digest wsX8_told := goodIn_r _ [10, 11, 12, 13, 14, 15, 16, 17, 18, 19, 20, 21, 9, 22, 4, 23, 24, 25, 26, 27, 28, 29, 30, 31, 32, 64, 65, 66, 67, 68, 69, 70, 71, 72, 73, 74, 75, 76, 77, 81, 82, 83, 84, 85, 86, 87, 88, 89, 90, 91, 92, 93, 94] (by decide +kernel) (by decide +kernel)
set_option maxRecDepth 20000 in
theorem gX8_digest_X8_told : GoodIn wsX8_digest (wsV RX8 289 RX8 yX8_told wsX8_told) := goodIn_app (goodIn_of _ (by decide +kernel)) ggX8_digest_X8_told
set_option maxRecDepth 20000 in
theorem ggX8_digest_X6_take : GoodIn wsX8_digest wsX6_take := goodIn_r _ [37, 38, 39, 40, 41, 36, 42, 43, 44, 45, 46, 47, 48, 49, 50, 51, 52, 78, 79, 80, 86, 87, 88, 89, 90, 91, 92, 93, 94] (by decide +kernel) (by decide +kernel)
set_option maxRecDepth 20000 in
theorem gX8_digest_X6_take : GoodIn wsX8_digest (wsV RX8 145 RX6 yX6_take wsX6_take) := goodIn_app (goodIn_of _ (by decide +kernel)) ggX8_digest_X6_take
set_option maxRecDepth 20000 in
theorem ggX8_digest_X6_keyAt : GoodIn wsX8_digest wsX6_keyAt := goodIn_r _ [56, 38, 51, 57, 58, 9, 59, 78, 79, 80] (by decide +kernel) (by decide +kernel)
set_option maxRecDepth 20000 in
theorem gX8_digest_X6_keyAt : GoodIn wsX8_digest (wsV RX8 156 RX6 yX6_keyAt wsX6_keyAt) := goodIn_app (goodIn_of _ (by decide +kernel)) ggX8_digest_X6_keyAt
set_option maxRecDepth 20000 in
theorem ggX8_digest_X6_valueAt : GoodIn wsX8_digest wsX6_valueAt := goodIn_r _ [63, 38, 52, 57, 58, 9, 59, 78, 79, 80] (by decide +kernel) (by decide +kernel)
set_option maxRecDepth 20000 in
theorem gX8_digest_X6_valueAt : GoodIn wsX8_digest (wsV RX8 149 RX6 yX6_valueAt wsX6_valueAt) := goodIn_app (goodIn_of _ (by decide +kernel)) ggX8_digest_X6_valueAt
theorem dX8_digest_0 : decode cX8_digest 0 = .ok (.ldc2_w 285, 3) := by decide +kernel
theorem dX8_digest_3 : decode cX8_digest 3 = .ok (.lstore_n 1, 1) := by decide +kernel
theorem dX8_digest_4 : decode cX8_digest 4 = .ok (.iconst 0, 1) := by decide +kernel
theorem dX8_digest_5 : decode cX8_digest 5 = .ok (.istore_n 3, 1) := by decide +kernel
theorem dX8_digest_6 : decode cX8_digest 6 = .ok (.iload_n 3, 1) := by decide +kernel
theorem dX8_digest_7 : decode cX8_digest 7 = .ok (.bipush 6, 2) := by decide +kernel
theorem dX8_digest_9 : decode cX8_digest 9 = .ok (.if_icmp .gt 22, 3) := by decide +kernel
theorem dX8_digest_12 : decode cX8_digest 12 = .ok (.ldc2_w 287, 3) := by decide +kernel
theorem dX8_digest_15 : decode cX8_digest 15 = .ok (.lload_n 1, 1) := by decide +kernel
theorem dX8_digest_16 : decode cX8_digest 16 = .ok (.lmul, 1) := by decide +kernel
theorem dX8_digest_17 : decode cX8_digest 17 = .ok (.aload_n 0, 1) := by decide +kernel
theorem dX8_digest_18 : decode cX8_digest 18 = .ok (.iload_n 3, 1) := by decide +kernel
theorem dX8_digest_19 : decode cX8_digest 19 = .ok (.invokevirtual 289, 3) := by decide +kernel
theorem dX8_digest_22 : decode cX8_digest 22 = .ok (.i2l, 1) := by decide +kernel
theorem dX8_digest_23 : decode cX8_digest 23 = .ok (.ladd, 1) := by decide +kernel
theorem dX8_digest_24 : decode cX8_digest 24 = .ok (.lstore_n 1, 1) := by decide +kernel
theorem dX8_digest_25 : decode cX8_digest 25 = .ok (.iinc 3 1, 3) := by decide +kernel
theorem dX8_digest_28 : decode cX8_digest 28 = .ok (.goto (-22), 3) := by decide +kernel
theorem dX8_digest_31 : decode cX8_digest 31 = .ok (.iconst 0, 1) := by decide +kernel
theorem dX8_digest_32 : decode cX8_digest 32 = .ok (.istore_n 3, 1) := by decide +kernel
theorem dX8_digest_33 : decode cX8_digest 33 = .ok (.iload_n 3, 1) := by decide +kernel
theorem dX8_digest_34 : decode cX8_digest 34 = .ok (.bipush 6, 2) := by decide +kernel
theorem dX8_digest_36 : decode cX8_digest 36 = .ok (.if_icmp .ge 92, 3) := by decide +kernel
theorem dX8_digest_39 : decode cX8_digest 39 = .ok (.aload_n 0, 1) := by decide +kernel
theorem dX8_digest_40 : decode cX8_digest 40 = .ok (.getfield 68, 3) := by decide +kernel
theorem dX8_digest_43 : decode cX8_digest 43 = .ok (.aload_n 0, 1) := by decide +kernel
theorem dX8_digest_44 : decode cX8_digest 44 = .ok (.getfield 27, 3) := by decide +kernel
theorem dX8_digest_47 : decode cX8_digest 47 = .ok (.iload_n 3, 1) := by decide +kernel
theorem dX8_digest_48 : decode cX8_digest 48 = .ok (.aaload, 1) := by decide +kernel
theorem dX8_digest_49 : decode cX8_digest 49 = .ok (.invokevirtual 145, 3) := by decide +kernel
theorem dX8_digest_52 : decode cX8_digest 52 = .ok (.ldc2_w 287, 3) := by decide +kernel
theorem dX8_digest_55 : decode cX8_digest 55 = .ok (.lload_n 1, 1) := by decide +kernel
theorem dX8_digest_56 : decode cX8_digest 56 = .ok (.lmul, 1) := by decide +kernel
theorem dX8_digest_57 : decode cX8_digest 57 = .ok (.aload_n 0, 1) := by decide +kernel
theorem dX8_digest_58 : decode cX8_digest 58 = .ok (.getfield 68, 3) := by decide +kernel
theorem dX8_digest_61 : decode cX8_digest 61 = .ok (.getfield 153, 3) := by decide +kernel
theorem dX8_digest_64 : decode cX8_digest 64 = .ok (.i2l, 1) := by decide +kernel
theorem dX8_digest_65 : decode cX8_digest 65 = .ok (.ladd, 1) := by decide +kernel
theorem dX8_digest_66 : decode cX8_digest 66 = .ok (.lstore_n 1, 1) := by decide +kernel
theorem dX8_digest_67 : decode cX8_digest 67 = .ok (.iconst 0, 1) := by decide +kernel
theorem dX8_digest_68 : decode cX8_digest 68 = .ok (.istore 4, 2) := by decide +kernel
theorem dX8_digest_70 : decode cX8_digest 70 = .ok (.iload 4, 2) := by decide +kernel
theorem dX8_digest_72 : decode cX8_digest 72 = .ok (.aload_n 0, 1) := by decide +kernel
theorem dX8_digest_73 : decode cX8_digest 73 = .ok (.getfield 68, 3) := by decide +kernel
theorem dX8_digest_76 : decode cX8_digest 76 = .ok (.getfield 153, 3) := by decide +kernel
theorem dX8_digest_79 : decode cX8_digest 79 = .ok (.if_icmp .ge 43, 3) := by decide +kernel
theorem dX8_digest_82 : decode cX8_digest 82 = .ok (.ldc2_w 287, 3) := by decide +kernel
theorem dX8_digest_85 : decode cX8_digest 85 = .ok (.lload_n 1, 1) := by decide +kernel
theorem dX8_digest_86 : decode cX8_digest 86 = .ok (.lmul, 1) := by decide +kernel
theorem dX8_digest_87 : decode cX8_digest 87 = .ok (.aload_n 0, 1) := by decide +kernel
theorem dX8_digest_88 : decode cX8_digest 88 = .ok (.getfield 68, 3) := by decide +kernel
theorem dX8_digest_91 : decode cX8_digest 91 = .ok (.iload 4, 2) := by decide +kernel
theorem dX8_digest_93 : decode cX8_digest 93 = .ok (.invokevirtual 156, 3) := by decide +kernel
theorem dX8_digest_96 : decode cX8_digest 96 = .ok (.i2l, 1) := by decide +kernel
theorem dX8_digest_97 : decode cX8_digest 97 = .ok (.ladd, 1) := by decide +kernel
theorem dX8_digest_98 : decode cX8_digest 98 = .ok (.lstore_n 1, 1) := by decide +kernel
theorem dX8_digest_99 : decode cX8_digest 99 = .ok (.ldc2_w 287, 3) := by decide +kernel
theorem dX8_digest_102 : decode cX8_digest 102 = .ok (.lload_n 1, 1) := by decide +kernel
theorem dX8_digest_103 : decode cX8_digest 103 = .ok (.lmul, 1) := by decide +kernel
theorem dX8_digest_104 : decode cX8_digest 104 = .ok (.aload_n 0, 1) := by decide +kernel
theorem dX8_digest_105 : decode cX8_digest 105 = .ok (.getfield 68, 3) := by decide +kernel
theorem dX8_digest_108 : decode cX8_digest 108 = .ok (.iload 4, 2) := by decide +kernel
theorem dX8_digest_110 : decode cX8_digest 110 = .ok (.invokevirtual 149, 3) := by decide +kernel
theorem dX8_digest_113 : decode cX8_digest 113 = .ok (.i2l, 1) := by decide +kernel
theorem dX8_digest_114 : decode cX8_digest 114 = .ok (.ladd, 1) := by decide +kernel
theorem dX8_digest_115 : decode cX8_digest 115 = .ok (.lstore_n 1, 1) := by decide +kernel
theorem dX8_digest_116 : decode cX8_digest 116 = .ok (.iinc 4 1, 3) := by decide +kernel
theorem dX8_digest_119 : decode cX8_digest 119 = .ok (.goto (-49), 3) := by decide +kernel
theorem dX8_digest_122 : decode cX8_digest 122 = .ok (.iinc 3 1, 3) := by decide +kernel
theorem dX8_digest_125 : decode cX8_digest 125 = .ok (.goto (-92), 3) := by decide +kernel
theorem dX8_digest_128 : decode cX8_digest 128 = .ok (.lload_n 1, 1) := by decide +kernel
theorem dX8_digest_129 : decode cX8_digest 129 = .ok (.lreturn, 1) := by decide +kernel
theorem dX8_bad_0 : decode cX8_bad 0 = .ok (.aload_n 0, 1) := by decide +kernel
theorem dX8_bad_1 : decode cX8_bad 1 = .ok (.dup, 1) := by decide +kernel
theorem dX8_bad_2 : decode cX8_bad 2 = .ok (.getfield 273, 3) := by decide +kernel
theorem dX8_bad_5 : decode cX8_bad 5 = .ok (.iconst 1, 1) := by decide +kernel
theorem dX8_bad_6 : decode cX8_bad 6 = .ok (.iadd, 1) := by decide +kernel
theorem dX8_bad_7 : decode cX8_bad 7 = .ok (.putfield 273, 3) := by decide +kernel
theorem dX8_bad_10 : decode cX8_bad 10 = .ok (.ldc_w 292, 3) := by decide +kernel
theorem dX8_bad_13 : decode cX8_bad 13 = .ok (.ireturn, 1) := by decide +kernel
theorem dX8_no_0 : decode cX8_no 0 = .ok (.aload_n 0, 1) := by decide +kernel
theorem dX8_no_1 : decode cX8_no 1 = .ok (.dup, 1) := by decide +kernel
theorem dX8_no_2 : decode cX8_no 2 = .ok (.getfield 276, 3) := by decide +kernel
theorem dX8_no_5 : decode cX8_no 5 = .ok (.iconst 1, 1) := by decide +kernel
theorem dX8_no_6 : decode cX8_no 6 = .ok (.iadd, 1) := by decide +kernel
theorem dX8_no_7 : decode cX8_no 7 = .ok (.putfield 276, 3) := by decide +kernel
theorem dX8_no_10 : decode cX8_no 10 = .ok (.ldc_w 293, 3) := by decide +kernel
theorem dX8_no_13 : decode cX8_no 13 = .ok (.ireturn, 1) := by decide +kernel
theorem dX8_full_0 : decode cX8_full 0 = .ok (.aload_n 0, 1) := by decide +kernel
theorem dX8_full_1 : decode cX8_full 1 = .ok (.dup, 1) := by decide +kernel
theorem dX8_full_2 : decode cX8_full 2 = .ok (.getfield 279, 3) := by decide +kernel
theorem dX8_full_5 : decode cX8_full 5 = .ok (.iconst 1, 1) := by decide +kernel
theorem dX8_full_6 : decode cX8_full 6 = .ok (.iadd, 1) := by decide +kernel
theorem dX8_full_7 : decode cX8_full 7 = .ok (.putfield 279, 3) := by decide +kernel
theorem dX8_full_10 : decode cX8_full 10 = .ok (.ldc_w 294, 3) := by decide +kernel
theorem dX8_full_13 : decode cX8_full 13 = .ok (.ireturn, 1) := by decide +kernel
theorem dX8_isIn_0 : decode cX8_isIn 0 = .ok (.iload_n 0, 1) := by decide +kernel
theorem dX8_isIn_1 : decode cX8_isIn 1 = .ok (.iload_n 1, 1) := by decide +kernel
theorem dX8_isIn_2 : decode cX8_isIn 2 = .ok (.if_icmp .lt 12, 3) := by decide +kernel
theorem dX8_isIn_5 : decode cX8_isIn 5 = .ok (.iload_n 0, 1) := by decide +kernel
theorem dX8_isIn_6 : decode cX8_isIn 6 = .ok (.iload_n 2, 1) := by decide +kernel
theorem dX8_isIn_7 : decode cX8_isIn 7 = .ok (.if_icmp .gt 7, 3) := by decide +kernel
theorem dX8_isIn_10 : decode cX8_isIn 10 = .ok (.iconst 1, 1) := by decide +kernel
theorem dX8_isIn_11 : decode cX8_isIn 11 = .ok (.goto 4, 3) := by decide +kernel
theorem dX8_isIn_14 : decode cX8_isIn 14 = .ok (.iconst 0, 1) := by decide +kernel
theorem dX8_isIn_15 : decode cX8_isIn 15 = .ok (.ireturn, 1) := by decide +kernel
set_option maxRecDepth 20000 in
theorem ggX8_isMap_X8_isIn : GoodIn wsX8_isMap wsX8_isIn := goodIn_r _ [4] (by decide +kernel) (by decide +kernel)
set_option maxRecDepth 20000 in
theorem gX8_isMap_X8_isIn : GoodIn wsX8_isMap (va_wsS RX8 122 yX8_isIn wsX8_isIn) := goodIn_app (goodIn_of _ (by decide +kernel)) ggX8_isMap_X8_isIn
theorem dX8_isMap_0 : decode cX8_isMap 0 = .ok (.iload_n 0, 1) := by decide +kernel
theorem dX8_isMap_1 : decode cX8_isMap 1 = .ok (.iconst 0, 1) := by decide +kernel
theorem dX8_isMap_2 : decode cX8_isMap 2 = .ok (.iconst 5, 1) := by decide +kernel
theorem dX8_isMap_3 : decode cX8_isMap 3 = .ok (.invokestatic 122, 3) := by decide +kernel
theorem dX8_isMap_6 : decode cX8_isMap 6 = .ok (.ireturn, 1) := by decide +kernel
set_option maxRecDepth 20000 in
theorem ggX8_isKey_X8_isIn : GoodIn wsX8_isKey wsX8_isIn := goodIn_r _ [4] (by decide +kernel) (by decide +kernel)
set_option maxRecDepth 20000 in
theorem gX8_isKey_X8_isIn : GoodIn wsX8_isKey (va_wsS RX8 122 yX8_isIn wsX8_isIn) := goodIn_app (goodIn_of _ (by decide +kernel)) ggX8_isKey_X8_isIn
theorem dX8_isKey_0 : decode cX8_isKey 0 = .ok (.iload_n 0, 1) := by decide +kernel
theorem dX8_isKey_1 : decode cX8_isKey 1 = .ok (.sipush (-500), 3) := by decide +kernel
theorem dX8_isKey_4 : decode cX8_isKey 4 = .ok (.sipush 500, 3) := by decide +kernel
theorem dX8_isKey_7 : decode cX8_isKey 7 = .ok (.invokestatic 122, 3) := by decide +kernel
theorem dX8_isKey_10 : decode cX8_isKey 10 = .ok (.ireturn, 1) := by decide +kernel
set_option maxRecDepth 20000 in
theorem ggX8_isValue_X8_isIn : GoodIn wsX8_isValue wsX8_isIn := goodIn_r _ [6] (by decide +kernel) (by decide +kernel)
set_option maxRecDepth 20000 in
theorem gX8_isValue_X8_isIn : GoodIn wsX8_isValue (va_wsS RX8 122 yX8_isIn wsX8_isIn) := goodIn_app (goodIn_of _ (by decide +kernel)) ggX8_isValue_X8_isIn
theorem dX8_isValue_0 : decode cX8_isValue 0 = .ok (.iload_n 0, 1) := by decide +kernel
theorem dX8_isValue_1 : decode cX8_isValue 1 = .ok (.ldc_w 295, 3) := by decide +kernel
theorem dX8_isValue_4 : decode cX8_isValue 4 = .ok (.ldc_w 296, 3) := by decide +kernel
theorem dX8_isValue_7 : decode cX8_isValue 7 = .ok (.invokestatic 122, 3) := by decide +kernel
theorem dX8_isValue_10 : decode cX8_isValue 10 = .ok (.ireturn, 1) := by decide +kernel
set_option maxRecDepth 20000 in
theorem ggX8_isRange_X8_isKey : GoodIn wsX8_isRange wsX8_isKey := goodIn_r _ [4, 5, 6, 3, 7] (by decide +kernel) (by decide +kernel)
set_option maxRecDepth 20000 in
theorem gX8_isRange_X8_isKey : GoodIn wsX8_isRange (va_wsS RX8 79 yX8_isKey wsX8_isKey) := goodIn_app (goodIn_of _ (by decide +kernel)) ggX8_isRange_X8_isKey
theorem dX8_isRange_0 : decode cX8_isRange 0 = .ok (.iload_n 0, 1) := by decide +kernel
theorem dX8_isRange_1 : decode cX8_isRange 1 = .ok (.invokestatic 79, 3) := by decide +kernel
theorem dX8_isRange_4 : decode cX8_isRange 4 = .ok (.ifCond .eq 19, 3) := by decide +kernel
theorem dX8_isRange_7 : decode cX8_isRange 7 = .ok (.iload_n 1, 1) := by decide +kernel
theorem dX8_isRange_8 : decode cX8_isRange 8 = .ok (.invokestatic 79, 3) := by decide +kernel
theorem dX8_isRange_11 : decode cX8_isRange 11 = .ok (.ifCond .eq 12, 3) := by decide +kernel
theorem dX8_isRange_14 : decode cX8_isRange 14 = .ok (.iload_n 0, 1) := by decide +kernel
theorem dX8_isRange_15 : decode cX8_isRange 15 = .ok (.iload_n 1, 1) := by decide +kernel
theorem dX8_isRange_16 : decode cX8_isRange 16 = .ok (.if_icmp .gt 7, 3) := by decide +kernel
theorem dX8_isRange_19 : decode cX8_isRange 19 = .ok (.iconst 1, 1) := by decide +kernel
theorem dX8_isRange_20 : decode cX8_isRange 20 = .ok (.goto 4, 3) := by decide +kernel
theorem dX8_isRange_23 : decode cX8_isRange 23 = .ok (.iconst 0, 1) := by decide +kernel
theorem dX8_isRange_24 : decode cX8_isRange 24 = .ok (.ireturn, 1) := by decide +kernel
theorem dX8_held_0 : decode cX8_held 0 = .ok (.ldc_w 295, 3) := by decide +kernel
theorem dX8_held_3 : decode cX8_held 3 = .ok (.ldc_w 296, 3) := by decide +kernel
theorem dX8_held_6 : decode cX8_held 6 = .ok (.iload_n 0, 1) := by decide +kernel
theorem dX8_held_7 : decode cX8_held 7 = .ok (.invokestatic 206, 3) := by decide +kernel
theorem dX8_held_10 : decode cX8_held 10 = .ok (.invokestatic 158, 3) := by decide +kernel
theorem dX8_held_13 : decode cX8_held 13 = .ok (.ireturn, 1) := by decide +kernel
theorem dX8_passes_0 : decode cX8_passes 0 = .ok (.iload_n 3, 1) := by decide +kernel
theorem dX8_passes_1 : decode cX8_passes 1 = .ok (.iload_n 1, 1) := by decide +kernel
theorem dX8_passes_2 : decode cX8_passes 2 = .ok (.if_icmp .le 7, 3) := by decide +kernel
theorem dX8_passes_5 : decode cX8_passes 5 = .ok (.iconst 1, 1) := by decide +kernel
theorem dX8_passes_6 : decode cX8_passes 6 = .ok (.goto 4, 3) := by decide +kernel
theorem dX8_passes_9 : decode cX8_passes 9 = .ok (.iconst 0, 1) := by decide +kernel
theorem dX8_passes_10 : decode cX8_passes 10 = .ok (.istore 4, 2) := by decide +kernel
theorem dX8_passes_12 : decode cX8_passes 12 = .ok (.iload 4, 2) := by decide +kernel
theorem dX8_passes_14 : decode cX8_passes 14 = .ok (.ifCond .eq 11, 3) := by decide +kernel
theorem dX8_passes_17 : decode cX8_passes 17 = .ok (.iload_n 2, 1) := by decide +kernel
theorem dX8_passes_18 : decode cX8_passes 18 = .ok (.ifCond .le 7, 3) := by decide +kernel
theorem dX8_passes_21 : decode cX8_passes 21 = .ok (.iconst 1, 1) := by decide +kernel
theorem dX8_passes_22 : decode cX8_passes 22 = .ok (.goto 4, 3) := by decide +kernel
theorem dX8_passes_25 : decode cX8_passes 25 = .ok (.iconst 0, 1) := by decide +kernel
theorem dX8_passes_26 : decode cX8_passes 26 = .ok (.istore 5, 2) := by decide +kernel
theorem dX8_passes_28 : decode cX8_passes 28 = .ok (.iload_n 0, 1) := by decide +kernel
theorem dX8_passes_29 : decode cX8_passes 29 = .ok (.tableswitch 60 1 4 #[31, 43, 46, 49], 31) := by decide +kernel
theorem dX8_passes_60 : decode cX8_passes 60 = .ok (.iload_n 2, 1) := by decide +kernel
theorem dX8_passes_61 : decode cX8_passes 61 = .ok (.iconst 2, 1) := by decide +kernel
theorem dX8_passes_62 : decode cX8_passes 62 = .ok (.irem, 1) := by decide +kernel
theorem dX8_passes_63 : decode cX8_passes 63 = .ok (.ifCond .ne 7, 3) := by decide +kernel
theorem dX8_passes_66 : decode cX8_passes 66 = .ok (.iconst 1, 1) := by decide +kernel
theorem dX8_passes_67 : decode cX8_passes 67 = .ok (.goto 4, 3) := by decide +kernel
theorem dX8_passes_70 : decode cX8_passes 70 = .ok (.iconst 0, 1) := by decide +kernel
theorem dX8_passes_71 : decode cX8_passes 71 = .ok (.ireturn, 1) := by decide +kernel
theorem dX8_passes_72 : decode cX8_passes 72 = .ok (.iload 4, 2) := by decide +kernel
theorem dX8_passes_74 : decode cX8_passes 74 = .ok (.ireturn, 1) := by decide +kernel
theorem dX8_passes_75 : decode cX8_passes 75 = .ok (.iload 5, 2) := by decide +kernel
theorem dX8_passes_77 : decode cX8_passes 77 = .ok (.ireturn, 1) := by decide +kernel
theorem dX8_passes_78 : decode cX8_passes 78 = .ok (.iload 5, 2) := by decide +kernel
theorem dX8_passes_80 : decode cX8_passes 80 = .ok (.ifCond .ne 7, 3) := by decide +kernel
theorem dX8_passes_83 : decode cX8_passes 83 = .ok (.iconst 1, 1) := by decide +kernel
theorem dX8_passes_84 : decode cX8_passes 84 = .ok (.goto 4, 3) := by decide +kernel
theorem dX8_passes_87 : decode cX8_passes 87 = .ok (.iconst 0, 1) := by decide +kernel
theorem dX8_passes_88 : decode cX8_passes 88 = .ok (.ireturn, 1) := by decide +kernel
theorem dX8_passes_89 : decode cX8_passes 89 = .ok (.iconst 1, 1) := by decide +kernel
theorem dX8_passes_90 : decode cX8_passes 90 = .ok (.ireturn, 1) := by decide +kernel
set_option maxRecDepth 20000 in
theorem ggX8_entriesOfAll_X3_countOf : GoodIn wsX8_entriesOfAll wsX3_countOf := goodIn_r _ [5, 6, 21, 22, 23, 24, 25, 26, 27, 28, 29] (by decide +kernel) (by decide +kernel)
set_option maxRecDepth 20000 in
theorem gX8_entriesOfAll_X3_countOf : GoodIn wsX8_entriesOfAll (va_wsS RX8 93 yX3_countOf wsX3_countOf) := goodIn_app (goodIn_of _ (by decide +kernel)) ggX8_entriesOfAll_X3_countOf
theorem dX8_entriesOfAll_0 : decode cX8_entriesOfAll 0 = .ok (.iconst 0, 1) := by decide +kernel
theorem dX8_entriesOfAll_1 : decode cX8_entriesOfAll 1 = .ok (.istore_n 1, 1) := by decide +kernel
theorem dX8_entriesOfAll_2 : decode cX8_entriesOfAll 2 = .ok (.iconst 0, 1) := by decide +kernel
theorem dX8_entriesOfAll_3 : decode cX8_entriesOfAll 3 = .ok (.istore_n 2, 1) := by decide +kernel
theorem dX8_entriesOfAll_4 : decode cX8_entriesOfAll 4 = .ok (.iload_n 2, 1) := by decide +kernel
theorem dX8_entriesOfAll_5 : decode cX8_entriesOfAll 5 = .ok (.bipush 6, 2) := by decide +kernel
theorem dX8_entriesOfAll_7 : decode cX8_entriesOfAll 7 = .ok (.if_icmp .ge 21, 3) := by decide +kernel
theorem dX8_entriesOfAll_10 : decode cX8_entriesOfAll 10 = .ok (.iload_n 1, 1) := by decide +kernel
theorem dX8_entriesOfAll_11 : decode cX8_entriesOfAll 11 = .ok (.aload_n 0, 1) := by decide +kernel
theorem dX8_entriesOfAll_12 : decode cX8_entriesOfAll 12 = .ok (.getfield 27, 3) := by decide +kernel
theorem dX8_entriesOfAll_15 : decode cX8_entriesOfAll 15 = .ok (.iload_n 2, 1) := by decide +kernel
theorem dX8_entriesOfAll_16 : decode cX8_entriesOfAll 16 = .ok (.aaload, 1) := by decide +kernel
theorem dX8_entriesOfAll_17 : decode cX8_entriesOfAll 17 = .ok (.invokestatic 93, 3) := by decide +kernel
theorem dX8_entriesOfAll_20 : decode cX8_entriesOfAll 20 = .ok (.iadd, 1) := by decide +kernel
theorem dX8_entriesOfAll_21 : decode cX8_entriesOfAll 21 = .ok (.istore_n 1, 1) := by decide +kernel
theorem dX8_entriesOfAll_22 : decode cX8_entriesOfAll 22 = .ok (.iinc 2 1, 3) := by decide +kernel
theorem dX8_entriesOfAll_25 : decode cX8_entriesOfAll 25 = .ok (.goto (-21), 3) := by decide +kernel
theorem dX8_entriesOfAll_28 : decode cX8_entriesOfAll 28 = .ok (.iload_n 1, 1) := by decide +kernel
theorem dX8_entriesOfAll_29 : decode cX8_entriesOfAll 29 = .ok (.ireturn, 1) := by decide +kernel
set_option maxRecDepth 20000 in
theorem ggX8_firstUnlikeKey_X6_take : GoodIn wsX8_firstUnlikeKey wsX6_take := goodIn_r _ [13, 14, 15, 16, 17, 12, 18, 19, 20, 21, 22, 23, 24, 25, 26, 27, 28, 55, 56, 57, 58, 59, 60, 61, 62, 63, 64, 65, 66] (by decide +kernel) (by decide +kernel)
set_option maxRecDepth 20000 in
theorem gX8_firstUnlikeKey_X6_take : GoodIn wsX8_firstUnlikeKey (wsV RX8 145 RX6 yX6_take wsX6_take) := goodIn_app (goodIn_of _ (by decide +kernel)) ggX8_firstUnlikeKey_X6_take
set_option maxRecDepth 20000 in
theorem ggX8_firstUnlikeKey_X6_keyAt : GoodIn wsX8_firstUnlikeKey wsX6_keyAt := goodIn_r _ [32, 14, 27, 33, 34, 35, 36, 55, 56, 57] (by decide +kernel) (by decide +kernel)
set_option maxRecDepth 20000 in
theorem gX8_firstUnlikeKey_X6_keyAt : GoodIn wsX8_firstUnlikeKey (wsV RX8 156 RX6 yX6_keyAt wsX6_keyAt) := goodIn_app (goodIn_of _ (by decide +kernel)) ggX8_firstUnlikeKey_X6_keyAt
set_option maxRecDepth 20000 in
theorem ggX8_firstUnlikeKey_X6_valueAt : GoodIn wsX8_firstUnlikeKey wsX6_valueAt := goodIn_r _ [40, 14, 28, 33, 34, 35, 36, 55, 56, 57] (by decide +kernel) (by decide +kernel)
set_option maxRecDepth 20000 in
theorem gX8_firstUnlikeKey_X6_valueAt : GoodIn wsX8_firstUnlikeKey (wsV RX8 149 RX6 yX6_valueAt wsX6_valueAt) := goodIn_app (goodIn_of _ (by decide +kernel)) ggX8_firstUnlikeKey_X6_valueAt
theorem dX8_firstUnlikeKey_0 : decode cX8_firstUnlikeKey 0 = .ok (.aload_n 0, 1) := by decide +kernel
theorem dX8_firstUnlikeKey_1 : decode cX8_firstUnlikeKey 1 = .ok (.getfield 68, 3) := by decide +kernel
theorem dX8_firstUnlikeKey_4 : decode cX8_firstUnlikeKey 4 = .ok (.aload_n 0, 1) := by decide +kernel
theorem dX8_firstUnlikeKey_5 : decode cX8_firstUnlikeKey 5 = .ok (.getfield 27, 3) := by decide +kernel
theorem dX8_firstUnlikeKey_8 : decode cX8_firstUnlikeKey 8 = .ok (.iload_n 1, 1) := by decide +kernel
theorem dX8_firstUnlikeKey_9 : decode cX8_firstUnlikeKey 9 = .ok (.aaload, 1) := by decide +kernel
theorem dX8_firstUnlikeKey_10 : decode cX8_firstUnlikeKey 10 = .ok (.invokevirtual 145, 3) := by decide +kernel
theorem dX8_firstUnlikeKey_13 : decode cX8_firstUnlikeKey 13 = .ok (.aload_n 0, 1) := by decide +kernel
theorem dX8_firstUnlikeKey_14 : decode cX8_firstUnlikeKey 14 = .ok (.getfield 72, 3) := by decide +kernel
theorem dX8_firstUnlikeKey_17 : decode cX8_firstUnlikeKey 17 = .ok (.aload_n 0, 1) := by decide +kernel
theorem dX8_firstUnlikeKey_18 : decode cX8_firstUnlikeKey 18 = .ok (.getfield 27, 3) := by decide +kernel
theorem dX8_firstUnlikeKey_21 : decode cX8_firstUnlikeKey 21 = .ok (.iload_n 2, 1) := by decide +kernel
theorem dX8_firstUnlikeKey_22 : decode cX8_firstUnlikeKey 22 = .ok (.aaload, 1) := by decide +kernel
theorem dX8_firstUnlikeKey_23 : decode cX8_firstUnlikeKey 23 = .ok (.invokevirtual 145, 3) := by decide +kernel
theorem dX8_firstUnlikeKey_26 : decode cX8_firstUnlikeKey 26 = .ok (.aload_n 0, 1) := by decide +kernel
theorem dX8_firstUnlikeKey_27 : decode cX8_firstUnlikeKey 27 = .ok (.getfield 68, 3) := by decide +kernel
theorem dX8_firstUnlikeKey_30 : decode cX8_firstUnlikeKey 30 = .ok (.getfield 153, 3) := by decide +kernel
theorem dX8_firstUnlikeKey_33 : decode cX8_firstUnlikeKey 33 = .ok (.aload_n 0, 1) := by decide +kernel
theorem dX8_firstUnlikeKey_34 : decode cX8_firstUnlikeKey 34 = .ok (.getfield 72, 3) := by decide +kernel
theorem dX8_firstUnlikeKey_37 : decode cX8_firstUnlikeKey 37 = .ok (.getfield 153, 3) := by decide +kernel
theorem dX8_firstUnlikeKey_40 : decode cX8_firstUnlikeKey 40 = .ok (.invokestatic 206, 3) := by decide +kernel
theorem dX8_firstUnlikeKey_43 : decode cX8_firstUnlikeKey 43 = .ok (.istore_n 3, 1) := by decide +kernel
theorem dX8_firstUnlikeKey_44 : decode cX8_firstUnlikeKey 44 = .ok (.iconst 0, 1) := by decide +kernel
theorem dX8_firstUnlikeKey_45 : decode cX8_firstUnlikeKey 45 = .ok (.istore 4, 2) := by decide +kernel
theorem dX8_firstUnlikeKey_47 : decode cX8_firstUnlikeKey 47 = .ok (.iload 4, 2) := by decide +kernel
theorem dX8_firstUnlikeKey_49 : decode cX8_firstUnlikeKey 49 = .ok (.iload_n 3, 1) := by decide +kernel
theorem dX8_firstUnlikeKey_50 : decode cX8_firstUnlikeKey 50 = .ok (.if_icmp .ge 73, 3) := by decide +kernel
theorem dX8_firstUnlikeKey_53 : decode cX8_firstUnlikeKey 53 = .ok (.aload_n 0, 1) := by decide +kernel
theorem dX8_firstUnlikeKey_54 : decode cX8_firstUnlikeKey 54 = .ok (.getfield 68, 3) := by decide +kernel
theorem dX8_firstUnlikeKey_57 : decode cX8_firstUnlikeKey 57 = .ok (.iload 4, 2) := by decide +kernel
theorem dX8_firstUnlikeKey_59 : decode cX8_firstUnlikeKey 59 = .ok (.invokevirtual 156, 3) := by decide +kernel
theorem dX8_firstUnlikeKey_62 : decode cX8_firstUnlikeKey 62 = .ok (.aload_n 0, 1) := by decide +kernel
theorem dX8_firstUnlikeKey_63 : decode cX8_firstUnlikeKey 63 = .ok (.getfield 72, 3) := by decide +kernel
theorem dX8_firstUnlikeKey_66 : decode cX8_firstUnlikeKey 66 = .ok (.iload 4, 2) := by decide +kernel
theorem dX8_firstUnlikeKey_68 : decode cX8_firstUnlikeKey 68 = .ok (.invokevirtual 156, 3) := by decide +kernel
theorem dX8_firstUnlikeKey_71 : decode cX8_firstUnlikeKey 71 = .ok (.if_icmp .ne 24, 3) := by decide +kernel
theorem dX8_firstUnlikeKey_74 : decode cX8_firstUnlikeKey 74 = .ok (.aload_n 0, 1) := by decide +kernel
theorem dX8_firstUnlikeKey_75 : decode cX8_firstUnlikeKey 75 = .ok (.getfield 68, 3) := by decide +kernel
theorem dX8_firstUnlikeKey_78 : decode cX8_firstUnlikeKey 78 = .ok (.iload 4, 2) := by decide +kernel
theorem dX8_firstUnlikeKey_80 : decode cX8_firstUnlikeKey 80 = .ok (.invokevirtual 149, 3) := by decide +kernel
theorem dX8_firstUnlikeKey_83 : decode cX8_firstUnlikeKey 83 = .ok (.aload_n 0, 1) := by decide +kernel
theorem dX8_firstUnlikeKey_84 : decode cX8_firstUnlikeKey 84 = .ok (.getfield 72, 3) := by decide +kernel
theorem dX8_firstUnlikeKey_87 : decode cX8_firstUnlikeKey 87 = .ok (.iload 4, 2) := by decide +kernel
theorem dX8_firstUnlikeKey_89 : decode cX8_firstUnlikeKey 89 = .ok (.invokevirtual 149, 3) := by decide +kernel
theorem dX8_firstUnlikeKey_92 : decode cX8_firstUnlikeKey 92 = .ok (.if_icmp .eq 25, 3) := by decide +kernel
theorem dX8_firstUnlikeKey_95 : decode cX8_firstUnlikeKey 95 = .ok (.aload_n 0, 1) := by decide +kernel
theorem dX8_firstUnlikeKey_96 : decode cX8_firstUnlikeKey 96 = .ok (.getfield 68, 3) := by decide +kernel
theorem dX8_firstUnlikeKey_99 : decode cX8_firstUnlikeKey 99 = .ok (.iload 4, 2) := by decide +kernel
theorem dX8_firstUnlikeKey_101 : decode cX8_firstUnlikeKey 101 = .ok (.invokevirtual 156, 3) := by decide +kernel
theorem dX8_firstUnlikeKey_104 : decode cX8_firstUnlikeKey 104 = .ok (.aload_n 0, 1) := by decide +kernel
theorem dX8_firstUnlikeKey_105 : decode cX8_firstUnlikeKey 105 = .ok (.getfield 72, 3) := by decide +kernel
theorem dX8_firstUnlikeKey_108 : decode cX8_firstUnlikeKey 108 = .ok (.iload 4, 2) := by decide +kernel
theorem dX8_firstUnlikeKey_110 : decode cX8_firstUnlikeKey 110 = .ok (.invokevirtual 156, 3) := by decide +kernel
theorem dX8_firstUnlikeKey_113 : decode cX8_firstUnlikeKey 113 = .ok (.invokestatic 206, 3) := by decide +kernel
theorem dX8_firstUnlikeKey_116 : decode cX8_firstUnlikeKey 116 = .ok (.ireturn, 1) := by decide +kernel
theorem dX8_firstUnlikeKey_117 : decode cX8_firstUnlikeKey 117 = .ok (.iinc 4 1, 3) := by decide +kernel
theorem dX8_firstUnlikeKey_120 : decode cX8_firstUnlikeKey 120 = .ok (.goto (-73), 3) := by decide +kernel
theorem dX8_firstUnlikeKey_123 : decode cX8_firstUnlikeKey 123 = .ok (.aload_n 0, 1) := by decide +kernel
theorem dX8_firstUnlikeKey_124 : decode cX8_firstUnlikeKey 124 = .ok (.getfield 68, 3) := by decide +kernel
theorem dX8_firstUnlikeKey_127 : decode cX8_firstUnlikeKey 127 = .ok (.getfield 153, 3) := by decide +kernel
theorem dX8_firstUnlikeKey_130 : decode cX8_firstUnlikeKey 130 = .ok (.iload_n 3, 1) := by decide +kernel
theorem dX8_firstUnlikeKey_131 : decode cX8_firstUnlikeKey 131 = .ok (.if_icmp .le 14, 3) := by decide +kernel
theorem dX8_firstUnlikeKey_134 : decode cX8_firstUnlikeKey 134 = .ok (.aload_n 0, 1) := by decide +kernel
theorem dX8_firstUnlikeKey_135 : decode cX8_firstUnlikeKey 135 = .ok (.getfield 68, 3) := by decide +kernel
theorem dX8_firstUnlikeKey_138 : decode cX8_firstUnlikeKey 138 = .ok (.iload_n 3, 1) := by decide +kernel
theorem dX8_firstUnlikeKey_139 : decode cX8_firstUnlikeKey 139 = .ok (.invokevirtual 156, 3) := by decide +kernel
theorem dX8_firstUnlikeKey_142 : decode cX8_firstUnlikeKey 142 = .ok (.goto 11, 3) := by decide +kernel
theorem dX8_firstUnlikeKey_145 : decode cX8_firstUnlikeKey 145 = .ok (.aload_n 0, 1) := by decide +kernel
theorem dX8_firstUnlikeKey_146 : decode cX8_firstUnlikeKey 146 = .ok (.getfield 72, 3) := by decide +kernel
theorem dX8_firstUnlikeKey_149 : decode cX8_firstUnlikeKey 149 = .ok (.iload_n 3, 1) := by decide +kernel
theorem dX8_firstUnlikeKey_150 : decode cX8_firstUnlikeKey 150 = .ok (.invokevirtual 156, 3) := by decide +kernel
theorem dX8_firstUnlikeKey_153 : decode cX8_firstUnlikeKey 153 = .ok (.ireturn, 1) := by decide +kernel
set_option maxRecDepth 20000 in
theorem ggX8_startChange_X2_isCrowded : GoodIn wsX8_startChange wsX2_isCrowded := goodIn_r _ [12, 13, 59, 60, 61, 62] (by decide +kernel) (by decide +kernel)
set_option maxRecDepth 20000 in
theorem gX8_startChange_X2_isCrowded : GoodIn wsX8_startChange (wsV RX8 297 RX2 yX2_isCrowded wsX2_isCrowded) := goodIn_app (goodIn_of _ (by decide +kernel)) ggX8_startChange_X2_isCrowded
set_option maxRecDepth 20000 in
theorem ggX8_startChange_X2_startKeeping : GoodIn wsX8_startChange wsX2_startKeeping := goodIn_r _ [17, 18, 59, 60, 61, 62] (by decide +kernel) (by decide +kernel)
set_option maxRecDepth 20000 in
theorem gX8_startChange_X2_startKeeping : GoodIn wsX8_startChange (wsV RX8 301 RX2 yX2_startKeeping wsX2_startKeeping) := goodIn_app (goodIn_of _ (by decide +kernel)) ggX8_startChange_X2_startKeeping
set_option maxRecDepth 20000 in
theorem ggX8_startChange_X2_keepAll : GoodIn wsX8_startChange wsX2_keepAll := goodIn_r _ [22, 23, 24, 25, 11, 26, 27, 18, 28, 29, 63, 64, 65, 66, 67, 68, 69, 70, 71, 59, 60, 61, 62] (by decide +kernel) (by decide +kernel)
set_option maxRecDepth 20000 in
theorem gX8_startChange_X2_keepAll : GoodIn wsX8_startChange (wsV RX8 304 RX2 yX2_keepAll wsX2_keepAll) := goodIn_app (goodIn_of _ (by decide +kernel)) ggX8_startChange_X2_keepAll
set_option maxRecDepth 20000 in
theorem ggX8_startChange_X2_spareTheRest : GoodIn wsX8_startChange wsX2_spareTheRest := goodIn_r _ [33, 34, 13, 35, 27, 18, 36, 37, 59, 60, 61, 62, 63, 64, 65, 66, 67, 68, 69, 70, 71] (by decide +kernel) (by decide +kernel)
set_option maxRecDepth 20000 in
theorem gX8_startChange_X2_spareTheRest : GoodIn wsX8_startChange (wsV RX8 314 RX2 yX2_spareTheRest wsX2_spareTheRest) := goodIn_app (goodIn_of _ (by decide +kernel)) ggX8_startChange_X2_spareTheRest
theorem dX8_startChange_0 : decode cX8_startChange 0 = .ok (.aload_n 0, 1) := by decide +kernel
theorem dX8_startChange_1 : decode cX8_startChange 1 = .ok (.getfield 10, 3) := by decide +kernel
theorem dX8_startChange_4 : decode cX8_startChange 4 = .ok (.invokevirtual 297, 3) := by decide +kernel
theorem dX8_startChange_7 : decode cX8_startChange 7 = .ok (.ifCond .eq 70, 3) := by decide +kernel
theorem dX8_startChange_10 : decode cX8_startChange 10 = .ok (.aload_n 0, 1) := by decide +kernel
theorem dX8_startChange_11 : decode cX8_startChange 11 = .ok (.getfield 10, 3) := by decide +kernel
theorem dX8_startChange_14 : decode cX8_startChange 14 = .ok (.invokevirtual 301, 3) := by decide +kernel
theorem dX8_startChange_17 : decode cX8_startChange 17 = .ok (.aload_n 0, 1) := by decide +kernel
theorem dX8_startChange_18 : decode cX8_startChange 18 = .ok (.getfield 10, 3) := by decide +kernel
theorem dX8_startChange_21 : decode cX8_startChange 21 = .ok (.aload_n 0, 1) := by decide +kernel
theorem dX8_startChange_22 : decode cX8_startChange 22 = .ok (.getfield 27, 3) := by decide +kernel
theorem dX8_startChange_25 : decode cX8_startChange 25 = .ok (.invokevirtual 304, 3) := by decide +kernel
theorem dX8_startChange_28 : decode cX8_startChange 28 = .ok (.aload_n 0, 1) := by decide +kernel
theorem dX8_startChange_29 : decode cX8_startChange 29 = .ok (.getfield 10, 3) := by decide +kernel
theorem dX8_startChange_32 : decode cX8_startChange 32 = .ok (.aload_n 0, 1) := by decide +kernel
theorem dX8_startChange_33 : decode cX8_startChange 33 = .ok (.getfield 34, 3) := by decide +kernel
theorem dX8_startChange_36 : decode cX8_startChange 36 = .ok (.getfield 307, 3) := by decide +kernel
theorem dX8_startChange_39 : decode cX8_startChange 39 = .ok (.invokevirtual 304, 3) := by decide +kernel
theorem dX8_startChange_42 : decode cX8_startChange 42 = .ok (.aload_n 0, 1) := by decide +kernel
theorem dX8_startChange_43 : decode cX8_startChange 43 = .ok (.getfield 10, 3) := by decide +kernel
theorem dX8_startChange_46 : decode cX8_startChange 46 = .ok (.aload_n 0, 1) := by decide +kernel
theorem dX8_startChange_47 : decode cX8_startChange 47 = .ok (.getfield 61, 3) := by decide +kernel
theorem dX8_startChange_50 : decode cX8_startChange 50 = .ok (.getfield 310, 3) := by decide +kernel
theorem dX8_startChange_53 : decode cX8_startChange 53 = .ok (.invokevirtual 304, 3) := by decide +kernel
theorem dX8_startChange_56 : decode cX8_startChange 56 = .ok (.aload_n 0, 1) := by decide +kernel
theorem dX8_startChange_57 : decode cX8_startChange 57 = .ok (.getfield 10, 3) := by decide +kernel
theorem dX8_startChange_60 : decode cX8_startChange 60 = .ok (.aload_n 0, 1) := by decide +kernel
theorem dX8_startChange_61 : decode cX8_startChange 61 = .ok (.getfield 61, 3) := by decide +kernel
theorem dX8_startChange_64 : decode cX8_startChange 64 = .ok (.getfield 311, 3) := by decide +kernel
theorem dX8_startChange_67 : decode cX8_startChange 67 = .ok (.invokevirtual 304, 3) := by decide +kernel
theorem dX8_startChange_70 : decode cX8_startChange 70 = .ok (.aload_n 0, 1) := by decide +kernel
theorem dX8_startChange_71 : decode cX8_startChange 71 = .ok (.getfield 10, 3) := by decide +kernel
theorem dX8_startChange_74 : decode cX8_startChange 74 = .ok (.invokevirtual 314, 3) := by decide +kernel
theorem dX8_startChange_77 : decode cX8_startChange 77 = .ok (.return_, 1) := by decide +kernel
set_option maxRecDepth 20000 in
theorem ggX8_settle_X7_leave : GoodIn wsX8_settle wsX7_leave := goodIn_r _ [7, 8, 9, 10, 11, 12, 13, 14, 34, 35, 36] (by decide +kernel) (by decide +kernel)
set_option maxRecDepth 20000 in
theorem gX8_settle_X7_leave : GoodIn wsX8_settle (wsV RX8 170 RX7 yX7_leave wsX7_leave) := goodIn_app (goodIn_of _ (by decide +kernel)) ggX8_settle_X7_leave
set_option maxRecDepth 20000 in
theorem ggX8_settle_X3_countOf : GoodIn wsX8_settle wsX3_countOf := goodIn_r _ [18, 19, 37, 38, 39, 40, 41, 42, 43, 44, 45] (by decide +kernel) (by decide +kernel)
set_option maxRecDepth 20000 in
theorem gX8_settle_X3_countOf : GoodIn wsX8_settle (va_wsS RX8 93 yX3_countOf wsX3_countOf) := goodIn_app (goodIn_of _ (by decide +kernel)) ggX8_settle_X3_countOf
theorem dX8_settle_0 : decode cX8_settle 0 = .ok (.aload_n 0, 1) := by decide +kernel
theorem dX8_settle_1 : decode cX8_settle 1 = .ok (.getfield 34, 3) := by decide +kernel
theorem dX8_settle_4 : decode cX8_settle 4 = .ok (.aload_n 0, 1) := by decide +kernel
theorem dX8_settle_5 : decode cX8_settle 5 = .ok (.getfield 27, 3) := by decide +kernel
theorem dX8_settle_8 : decode cX8_settle 8 = .ok (.invokevirtual 170, 3) := by decide +kernel
theorem dX8_settle_11 : decode cX8_settle 11 = .ok (.aload_n 0, 1) := by decide +kernel
theorem dX8_settle_12 : decode cX8_settle 12 = .ok (.getfield 27, 3) := by decide +kernel
theorem dX8_settle_15 : decode cX8_settle 15 = .ok (.iload_n 1, 1) := by decide +kernel
theorem dX8_settle_16 : decode cX8_settle 16 = .ok (.aload_n 2, 1) := by decide +kernel
theorem dX8_settle_17 : decode cX8_settle 17 = .ok (.aastore, 1) := by decide +kernel
theorem dX8_settle_18 : decode cX8_settle 18 = .ok (.aload_n 2, 1) := by decide +kernel
theorem dX8_settle_19 : decode cX8_settle 19 = .ok (.invokestatic 93, 3) := by decide +kernel
theorem dX8_settle_22 : decode cX8_settle 22 = .ok (.ireturn, 1) := by decide +kernel
set_option maxRecDepth 20000 in
theorem ggX8_settleRow_X8_startChange : GoodIn wsX8_settleRow wsX8_startChange := goodIn_r _ [7, 1, 8, 9, 10, 11, 12, 13, 14, 15, 16, 17, 18, 19, 20, 21, 22, 23, 24, 25, 26, 27, 28, 29, 30, 31, 32, 33, 34, 35, 36, 37, 38, 39, 40, 41, 42, 43, 124, 125, 126, 127, 128, 129, 130, 131, 132, 133, 134, 135, 136, 137, 141, 142, 143, 144, 145, 146, 147, 148, 149, 150, 151, 152, 153, 154, 155, 156, 157, 158, 159, 160] (by decide +kernel) (by decide +kernel)
set_option maxRecDepth 20000 in
theorem gX8_settleRow_X8_startChange : GoodIn wsX8_settleRow (wsV RX8 105 RX8 yX8_startChange wsX8_startChange) := goodIn_app (goodIn_of _ (by decide +kernel)) ggX8_settleRow_X8_startChange
set_option maxRecDepth 20000 in
theorem ggX8_settleRow_X2_built : GoodIn wsX8_settleRow wsX2_built := goodIn_r _ [47, 48, 45, 46, 17, 49, 50, 51, 52, 53, 54, 55, 56, 57, 6, 58, 59, 60, 61, 62, 63, 64, 65, 66, 67, 34, 68, 69, 35, 70, 71, 72, 73, 74, 75, 76, 77, 78, 79, 80, 81, 82, 83, 84, 40, 85, 86, 41, 43, 42, 19, 87, 88, 89, 90, 91, 92, 93, 94, 95, 96, 97, 98, 99, 100, 101, 102, 103, 104, 105, 106, 138, 139, 140, 152, 153, 154, 155, 156, 157, 158, 159, 160, 148, 149, 150, 151] (by decide +kernel) (by decide +kernel)
set_option maxRecDepth 20000 in
theorem gX8_settleRow_X2_built : GoodIn wsX8_settleRow (wsV RX8 317 RX2 yX2_built wsX2_built) := goodIn_app (goodIn_of _ (by decide +kernel)) ggX8_settleRow_X2_built
set_option maxRecDepth 20000 in
theorem ggX8_settleRow_X8_settle : GoodIn wsX8_settleRow wsX8_settle := goodIn_r _ [110, 9, 8, 111, 112, 113, 114, 115, 116, 117, 118, 119, 120, 121, 122, 123, 75, 72, 76, 77, 124, 125, 126, 127, 128, 129, 130, 131, 132, 133, 134, 135, 136, 137, 141, 142, 143, 152, 153, 154, 155, 156, 157, 158, 159, 160] (by decide +kernel) (by decide +kernel)
set_option maxRecDepth 20000 in
theorem gX8_settleRow_X8_settle : GoodIn wsX8_settleRow (wsV RX8 112 RX8 yX8_settle wsX8_settle) := goodIn_app (goodIn_of _ (by decide +kernel)) ggX8_settleRow_X8_settle
theorem dX8_settleRow_0 : decode cX8_settleRow 0 = .ok (.aload_n 0, 1) := by decide +kernel
theorem dX8_settleRow_1 : decode cX8_settleRow 1 = .ok (.invokevirtual 105, 3) := by decide +kernel
theorem dX8_settleRow_4 : decode cX8_settleRow 4 = .ok (.aload_n 0, 1) := by decide +kernel
theorem dX8_settleRow_5 : decode cX8_settleRow 5 = .ok (.iload_n 1, 1) := by decide +kernel
theorem dX8_settleRow_6 : decode cX8_settleRow 6 = .ok (.aload_n 0, 1) := by decide +kernel
theorem dX8_settleRow_7 : decode cX8_settleRow 7 = .ok (.getfield 10, 3) := by decide +kernel
theorem dX8_settleRow_10 : decode cX8_settleRow 10 = .ok (.aload_n 2, 1) := by decide +kernel
theorem dX8_settleRow_11 : decode cX8_settleRow 11 = .ok (.iconst 0, 1) := by decide +kernel
theorem dX8_settleRow_12 : decode cX8_settleRow 12 = .ok (.aload_n 2, 1) := by decide +kernel
theorem dX8_settleRow_13 : decode cX8_settleRow 13 = .ok (.getfield 153, 3) := by decide +kernel
theorem dX8_settleRow_16 : decode cX8_settleRow 16 = .ok (.iconst 0, 1) := by decide +kernel
theorem dX8_settleRow_17 : decode cX8_settleRow 17 = .ok (.invokevirtual 317, 3) := by decide +kernel
theorem dX8_settleRow_20 : decode cX8_settleRow 20 = .ok (.invokevirtual 112, 3) := by decide +kernel
theorem dX8_settleRow_23 : decode cX8_settleRow 23 = .ok (.ireturn, 1) := by decide +kernel
