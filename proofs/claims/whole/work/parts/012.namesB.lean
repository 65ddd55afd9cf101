theorem dX0_init_0 : decode cX0_init 0 = .ok (.aload_n 0, 1) := by decide +kernel
theorem dX0_init_1 : decode cX0_init 1 = .ok (.invokespecial 3, 3) := by decide +kernel
theorem dX0_init_4 : decode cX0_init 4 = .ok (.aload_n 0, 1) := by decide +kernel
theorem dX0_init_5 : decode cX0_init 5 = .ok (.bipush 6, 2) := by decide +kernel
theorem dX0_init_7 : decode cX0_init 7 = .ok (.anewarray 9, 3) := by decide +kernel
theorem dX0_init_10 : decode cX0_init 10 = .ok (.putfield 11, 3) := by decide +kernel
theorem dX0_init_13 : decode cX0_init 13 = .ok (.aload_n 0, 1) := by decide +kernel
theorem dX0_init_14 : decode cX0_init 14 = .ok (.bipush 120, 2) := by decide +kernel
theorem dX0_init_16 : decode cX0_init 16 = .ok (.anewarray 9, 3) := by decide +kernel
theorem dX0_init_19 : decode cX0_init 19 = .ok (.putfield 17, 3) := by decide +kernel
theorem dX0_init_22 : decode cX0_init 22 = .ok (.aload_n 0, 1) := by decide +kernel
theorem dX0_init_23 : decode cX0_init 23 = .ok (.aload_n 1, 1) := by decide +kernel
theorem dX0_init_24 : decode cX0_init 24 = .ok (.putfield 20, 3) := by decide +kernel
theorem dX0_init_27 : decode cX0_init 27 = .ok (.return_, 1) := by decide +kernel
theorem dX0_lay_0 : decode cX0_lay 0 = .ok (.aload_n 0, 1) := by decide +kernel
theorem dX0_lay_1 : decode cX0_lay 1 = .ok (.iconst 0, 1) := by decide +kernel
theorem dX0_lay_2 : decode cX0_lay 2 = .ok (.putfield 24, 3) := by decide +kernel
theorem dX0_lay_5 : decode cX0_lay 5 = .ok (.iconst 0, 1) := by decide +kernel
theorem dX0_lay_6 : decode cX0_lay 6 = .ok (.istore_n 2, 1) := by decide +kernel
theorem dX0_lay_7 : decode cX0_lay 7 = .ok (.iload_n 2, 1) := by decide +kernel
theorem dX0_lay_8 : decode cX0_lay 8 = .ok (.bipush 6, 2) := by decide +kernel
theorem dX0_lay_10 : decode cX0_lay 10 = .ok (.if_icmp .ge 18, 3) := by decide +kernel
theorem dX0_lay_13 : decode cX0_lay 13 = .ok (.aload_n 0, 1) := by decide +kernel
theorem dX0_lay_14 : decode cX0_lay 14 = .ok (.getfield 11, 3) := by decide +kernel
theorem dX0_lay_17 : decode cX0_lay 17 = .ok (.iload_n 2, 1) := by decide +kernel
theorem dX0_lay_18 : decode cX0_lay 18 = .ok (.aload_n 1, 1) := by decide +kernel
theorem dX0_lay_19 : decode cX0_lay 19 = .ok (.iload_n 2, 1) := by decide +kernel
theorem dX0_lay_20 : decode cX0_lay 20 = .ok (.aaload, 1) := by decide +kernel
theorem dX0_lay_21 : decode cX0_lay 21 = .ok (.aastore, 1) := by decide +kernel
theorem dX0_lay_22 : decode cX0_lay 22 = .ok (.iinc 2 1, 3) := by decide +kernel
theorem dX0_lay_25 : decode cX0_lay 25 = .ok (.goto (-18), 3) := by decide +kernel
theorem dX0_lay_28 : decode cX0_lay 28 = .ok (.iconst 0, 1) := by decide +kernel
theorem dX0_lay_29 : decode cX0_lay 29 = .ok (.istore_n 2, 1) := by decide +kernel
theorem dX0_lay_30 : decode cX0_lay 30 = .ok (.iload_n 2, 1) := by decide +kernel
theorem dX0_lay_31 : decode cX0_lay 31 = .ok (.bipush 120, 2) := by decide +kernel
theorem dX0_lay_33 : decode cX0_lay 33 = .ok (.if_icmp .ge 16, 3) := by decide +kernel
theorem dX0_lay_36 : decode cX0_lay 36 = .ok (.aload_n 0, 1) := by decide +kernel
theorem dX0_lay_37 : decode cX0_lay 37 = .ok (.getfield 17, 3) := by decide +kernel
theorem dX0_lay_40 : decode cX0_lay 40 = .ok (.iload_n 2, 1) := by decide +kernel
theorem dX0_lay_41 : decode cX0_lay 41 = .ok (.aconst_null, 1) := by decide +kernel
theorem dX0_lay_42 : decode cX0_lay 42 = .ok (.aastore, 1) := by decide +kernel
theorem dX0_lay_43 : decode cX0_lay 43 = .ok (.iinc 2 1, 3) := by decide +kernel
theorem dX0_lay_46 : decode cX0_lay 46 = .ok (.goto (-16), 3) := by decide +kernel
theorem dX0_lay_49 : decode cX0_lay 49 = .ok (.return_, 1) := by decide +kernel
theorem dX0_bring_0 : decode cX0_bring 0 = .ok (.iconst 0, 1) := by decide +kernel
theorem dX0_bring_1 : decode cX0_bring 1 = .ok (.istore_n 2, 1) := by decide +kernel
theorem dX0_bring_2 : decode cX0_bring 2 = .ok (.iload_n 2, 1) := by decide +kernel
theorem dX0_bring_3 : decode cX0_bring 3 = .ok (.bipush 6, 2) := by decide +kernel
theorem dX0_bring_5 : decode cX0_bring 5 = .ok (.if_icmp .ge 18, 3) := by decide +kernel
theorem dX0_bring_8 : decode cX0_bring 8 = .ok (.aload_n 1, 1) := by decide +kernel
theorem dX0_bring_9 : decode cX0_bring 9 = .ok (.iload_n 2, 1) := by decide +kernel
theorem dX0_bring_10 : decode cX0_bring 10 = .ok (.aload_n 0, 1) := by decide +kernel
theorem dX0_bring_11 : decode cX0_bring 11 = .ok (.getfield 11, 3) := by decide +kernel
theorem dX0_bring_14 : decode cX0_bring 14 = .ok (.iload_n 2, 1) := by decide +kernel
theorem dX0_bring_15 : decode cX0_bring 15 = .ok (.aaload, 1) := by decide +kernel
theorem dX0_bring_16 : decode cX0_bring 16 = .ok (.aastore, 1) := by decide +kernel
theorem dX0_bring_17 : decode cX0_bring 17 = .ok (.iinc 2 1, 3) := by decide +kernel
theorem dX0_bring_20 : decode cX0_bring 20 = .ok (.goto (-18), 3) := by decide +kernel
theorem dX0_bring_23 : decode cX0_bring 23 = .ok (.return_, 1) := by decide +kernel
set_option maxRecDepth 20000 in
theorem ggX0_act_X8_isMap : GoodIn wsX0_act wsX8_isMap := goodIn_r _ [5, 6, 7, 4, 8] (by decide +kernel) (by decide +kernel)
set_option maxRecDepth 20000 in
theorem gX0_act_X8_isMap_n28 : GoodIn wsX0_act (wsX8_isMap) := ggX0_act_X8_isMap
set_option maxRecDepth 20000 in
theorem ggX0_act_X0_push : GoodIn wsX0_act wsX0_push := goodIn_r _ [13, 14, 15, 87, 88, 89, 90] (by decide +kernel) (by decide +kernel)
set_option maxRecDepth 20000 in
theorem gX0_act_X0_push : GoodIn wsX0_act (wsV RX0 32 RX0 yX0_push wsX0_push) := goodIn_app (goodIn_of _ (by decide +kernel)) ggX0_act_X0_push
set_option maxRecDepth 20000 in
theorem ggX0_act_X0_pop : GoodIn wsX0_act wsX0_pop := goodIn_r _ [19, 14, 15, 87, 88, 89, 90] (by decide +kernel) (by decide +kernel)
set_option maxRecDepth 20000 in
theorem gX0_act_X0_pop : GoodIn wsX0_act (wsV RX0 36 RX0 yX0_pop wsX0_pop) := goodIn_app (goodIn_of _ (by decide +kernel)) ggX0_act_X0_pop
set_option maxRecDepth 20000 in
theorem ggX0_act_X2_with : GoodIn wsX0_act wsX2_with := goodIn_r _ [24, 25, 26, 27, 23, 28, 29, 30, 31, 32, 33, 34, 35, 36, 37, 38, 39, 40, 41, 42, 43, 44, 45, 46, 47, 48, 49, 50, 51, 52, 53, 54, 55, 56, 57, 58, 59, 60, 61, 62, 63, 64, 65, 66, 67, 68, 69, 70, 71, 72, 73, 74, 75, 76, 77, 78, 79, 80, 81, 82, 91, 92, 93, 94, 95, 96, 97, 98, 99, 100, 101, 102, 103] (by decide +kernel) (by decide +kernel)
set_option maxRecDepth 20000 in
theorem gX0_act_X2_with : GoodIn wsX0_act (wsV RX0 40 RX2 yX2_with wsX2_with) := goodIn_app (goodIn_of _ (by decide +kernel)) ggX0_act_X2_with
set_option maxRecDepth 20000 in
theorem ggX0_act_X0_store : GoodIn wsX0_act wsX0_store := goodIn_r _ [86, 1, 16, 17, 18, 12, 19, 14, 15, 3, 4, 5, 6, 7, 8, 87, 88, 89, 90] (by decide +kernel) (by decide +kernel)
set_option maxRecDepth 20000 in
theorem gX0_act_X0_store : GoodIn wsX0_act (wsV RX0 46 RX0 yX0_store wsX0_store) := goodIn_app (goodIn_of _ (by decide +kernel)) ggX0_act_X0_store
theorem dX0_act_0 : decode cX0_act 0 = .ok (.iload_n 1, 1) := by decide +kernel
theorem dX0_act_1 : decode cX0_act 1 = .ok (.tableswitch 83 4 7 #[31, 83, 55, 75], 31) := by decide +kernel
theorem dX0_act_32 : decode cX0_act 32 = .ok (.aload_n 0, 1) := by decide +kernel
theorem dX0_act_33 : decode cX0_act 33 = .ok (.iload_n 2, 1) := by decide +kernel
theorem dX0_act_34 : decode cX0_act 34 = .ok (.invokestatic 28, 3) := by decide +kernel
theorem dX0_act_37 : decode cX0_act 37 = .ok (.ifCond .eq 12, 3) := by decide +kernel
theorem dX0_act_40 : decode cX0_act 40 = .ok (.aload_n 0, 1) := by decide +kernel
theorem dX0_act_41 : decode cX0_act 41 = .ok (.getfield 11, 3) := by decide +kernel
theorem dX0_act_44 : decode cX0_act 44 = .ok (.iload_n 2, 1) := by decide +kernel
theorem dX0_act_45 : decode cX0_act 45 = .ok (.aaload, 1) := by decide +kernel
theorem dX0_act_46 : decode cX0_act 46 = .ok (.goto 4, 3) := by decide +kernel
theorem dX0_act_49 : decode cX0_act 49 = .ok (.aconst_null, 1) := by decide +kernel
theorem dX0_act_50 : decode cX0_act 50 = .ok (.invokevirtual 32, 3) := by decide +kernel
theorem dX0_act_53 : decode cX0_act 53 = .ok (.goto 36, 3) := by decide +kernel
theorem dX0_act_56 : decode cX0_act 56 = .ok (.aload_n 0, 1) := by decide +kernel
theorem dX0_act_57 : decode cX0_act 57 = .ok (.aload_n 0, 1) := by decide +kernel
theorem dX0_act_58 : decode cX0_act 58 = .ok (.getfield 20, 3) := by decide +kernel
theorem dX0_act_61 : decode cX0_act 61 = .ok (.aload_n 0, 1) := by decide +kernel
theorem dX0_act_62 : decode cX0_act 62 = .ok (.invokevirtual 36, 3) := by decide +kernel
theorem dX0_act_65 : decode cX0_act 65 = .ok (.iload_n 2, 1) := by decide +kernel
theorem dX0_act_66 : decode cX0_act 66 = .ok (.iload_n 2, 1) := by decide +kernel
theorem dX0_act_67 : decode cX0_act 67 = .ok (.invokevirtual 40, 3) := by decide +kernel
theorem dX0_act_70 : decode cX0_act 70 = .ok (.invokevirtual 32, 3) := by decide +kernel
theorem dX0_act_73 : decode cX0_act 73 = .ok (.goto 16, 3) := by decide +kernel
theorem dX0_act_76 : decode cX0_act 76 = .ok (.aload_n 0, 1) := by decide +kernel
theorem dX0_act_77 : decode cX0_act 77 = .ok (.iload_n 2, 1) := by decide +kernel
theorem dX0_act_78 : decode cX0_act 78 = .ok (.invokevirtual 46, 3) := by decide +kernel
theorem dX0_act_81 : decode cX0_act 81 = .ok (.goto 8, 3) := by decide +kernel
theorem dX0_act_84 : decode cX0_act 84 = .ok (.aload_n 0, 1) := by decide +kernel
theorem dX0_act_85 : decode cX0_act 85 = .ok (.aconst_null, 1) := by decide +kernel
theorem dX0_act_86 : decode cX0_act 86 = .ok (.invokevirtual 32, 3) := by decide +kernel
theorem dX0_act_89 : decode cX0_act 89 = .ok (.return_, 1) := by decide +kernel
set_option maxRecDepth 20000 in
theorem ggX0_store_X0_pop : GoodIn wsX0_store wsX0_pop := goodIn_r _ [6, 7, 8, 15, 16, 17, 18] (by decide +kernel) (by decide +kernel)
set_option maxRecDepth 20000 in
theorem gX0_store_X0_pop : GoodIn wsX0_store (wsV RX0 36 RX0 yX0_pop wsX0_pop) := goodIn_app (goodIn_of _ (by decide +kernel)) ggX0_store_X0_pop
set_option maxRecDepth 20000 in
theorem ggX0_store_X8_isMap : GoodIn wsX0_store wsX8_isMap := goodIn_r _ [11, 12, 13, 10, 14] (by decide +kernel) (by decide +kernel)
set_option maxRecDepth 20000 in
theorem gX0_store_X8_isMap_n28 : GoodIn wsX0_store (wsX8_isMap) := ggX0_store_X8_isMap
theorem dX0_store_0 : decode cX0_store 0 = .ok (.aload_n 0, 1) := by decide +kernel
theorem dX0_store_1 : decode cX0_store 1 = .ok (.invokevirtual 36, 3) := by decide +kernel
theorem dX0_store_4 : decode cX0_store 4 = .ok (.astore_n 2, 1) := by decide +kernel
theorem dX0_store_5 : decode cX0_store 5 = .ok (.iload_n 1, 1) := by decide +kernel
theorem dX0_store_6 : decode cX0_store 6 = .ok (.invokestatic 28, 3) := by decide +kernel
theorem dX0_store_9 : decode cX0_store 9 = .ok (.ifCond .eq 10, 3) := by decide +kernel
theorem dX0_store_12 : decode cX0_store 12 = .ok (.aload_n 0, 1) := by decide +kernel
theorem dX0_store_13 : decode cX0_store 13 = .ok (.getfield 11, 3) := by decide +kernel
theorem dX0_store_16 : decode cX0_store 16 = .ok (.iload_n 1, 1) := by decide +kernel
theorem dX0_store_17 : decode cX0_store 17 = .ok (.aload_n 2, 1) := by decide +kernel
theorem dX0_store_18 : decode cX0_store 18 = .ok (.aastore, 1) := by decide +kernel
theorem dX0_store_19 : decode cX0_store 19 = .ok (.return_, 1) := by decide +kernel
theorem dX0_push_0 : decode cX0_push 0 = .ok (.aload_n 0, 1) := by decide +kernel
theorem dX0_push_1 : decode cX0_push 1 = .ok (.getfield 24, 3) := by decide +kernel
theorem dX0_push_4 : decode cX0_push 4 = .ok (.bipush 120, 2) := by decide +kernel
theorem dX0_push_6 : decode cX0_push 6 = .ok (.if_icmp .ge 23, 3) := by decide +kernel
theorem dX0_push_9 : decode cX0_push 9 = .ok (.aload_n 0, 1) := by decide +kernel
theorem dX0_push_10 : decode cX0_push 10 = .ok (.getfield 17, 3) := by decide +kernel
theorem dX0_push_13 : decode cX0_push 13 = .ok (.aload_n 0, 1) := by decide +kernel
theorem dX0_push_14 : decode cX0_push 14 = .ok (.getfield 24, 3) := by decide +kernel
theorem dX0_push_17 : decode cX0_push 17 = .ok (.aload_n 1, 1) := by decide +kernel
theorem dX0_push_18 : decode cX0_push 18 = .ok (.aastore, 1) := by decide +kernel
theorem dX0_push_19 : decode cX0_push 19 = .ok (.aload_n 0, 1) := by decide +kernel
theorem dX0_push_20 : decode cX0_push 20 = .ok (.dup, 1) := by decide +kernel
theorem dX0_push_21 : decode cX0_push 21 = .ok (.getfield 24, 3) := by decide +kernel
theorem dX0_push_24 : decode cX0_push 24 = .ok (.iconst 1, 1) := by decide +kernel
theorem dX0_push_25 : decode cX0_push 25 = .ok (.iadd, 1) := by decide +kernel
theorem dX0_push_26 : decode cX0_push 26 = .ok (.putfield 24, 3) := by decide +kernel
theorem dX0_push_29 : decode cX0_push 29 = .ok (.return_, 1) := by decide +kernel
theorem dX0_pop_0 : decode cX0_pop 0 = .ok (.aload_n 0, 1) := by decide +kernel
theorem dX0_pop_1 : decode cX0_pop 1 = .ok (.getfield 24, 3) := by decide +kernel
theorem dX0_pop_4 : decode cX0_pop 4 = .ok (.ifCond .ne 5, 3) := by decide +kernel
theorem dX0_pop_7 : decode cX0_pop 7 = .ok (.aconst_null, 1) := by decide +kernel
theorem dX0_pop_8 : decode cX0_pop 8 = .ok (.areturn, 1) := by decide +kernel
theorem dX0_pop_9 : decode cX0_pop 9 = .ok (.aload_n 0, 1) := by decide +kernel
theorem dX0_pop_10 : decode cX0_pop 10 = .ok (.dup, 1) := by decide +kernel
theorem dX0_pop_11 : decode cX0_pop 11 = .ok (.getfield 24, 3) := by decide +kernel
theorem dX0_pop_14 : decode cX0_pop 14 = .ok (.iconst 1, 1) := by decide +kernel
theorem dX0_pop_15 : decode cX0_pop 15 = .ok (.isub, 1) := by decide +kernel
theorem dX0_pop_16 : decode cX0_pop 16 = .ok (.putfield 24, 3) := by decide +kernel
theorem dX0_pop_19 : decode cX0_pop 19 = .ok (.aload_n 0, 1) := by decide +kernel
theorem dX0_pop_20 : decode cX0_pop 20 = .ok (.getfield 17, 3) := by decide +kernel
theorem dX0_pop_23 : decode cX0_pop 23 = .ok (.aload_n 0, 1) := by decide +kernel
theorem dX0_pop_24 : decode cX0_pop 24 = .ok (.getfield 24, 3) := by decide +kernel
theorem dX0_pop_27 : decode cX0_pop 27 = .ok (.aaload, 1) := by decide +kernel
theorem dX0_pop_28 : decode cX0_pop 28 = .ok (.astore_n 1, 1) := by decide +kernel
theorem dX0_pop_29 : decode cX0_pop 29 = .ok (.aload_n 0, 1) := by decide +kernel
theorem dX0_pop_30 : decode cX0_pop 30 = .ok (.getfield 17, 3) := by decide +kernel
theorem dX0_pop_33 : decode cX0_pop 33 = .ok (.aload_n 0, 1) := by decide +kernel
theorem dX0_pop_34 : decode cX0_pop 34 = .ok (.getfield 24, 3) := by decide +kernel
theorem dX0_pop_37 : decode cX0_pop 37 = .ok (.aconst_null, 1) := by decide +kernel
theorem dX0_pop_38 : decode cX0_pop 38 = .ok (.aastore, 1) := by decide +kernel
theorem dX0_pop_39 : decode cX0_pop 39 = .ok (.aload_n 1, 1) := by decide +kernel
theorem dX0_pop_40 : decode cX0_pop 40 = .ok (.areturn, 1) := by decide +kernel
theorem dX1_init_0 : decode cX1_init 0 = .ok (.aload_n 0, 1) := by decide +kernel
theorem dX1_init_1 : decode cX1_init 1 = .ok (.invokespecial 3, 3) := by decide +kernel
theorem dX1_init_4 : decode cX1_init 4 = .ok (.aload_n 0, 1) := by decide +kernel
theorem dX1_init_5 : decode cX1_init 5 = .ok (.aload_n 1, 1) := by decide +kernel
theorem dX1_init_6 : decode cX1_init 6 = .ok (.putfield 9, 3) := by decide +kernel
theorem dX1_init_9 : decode cX1_init 9 = .ok (.return_, 1) := by decide +kernel
set_option maxRecDepth 20000 in
theorem ggX1_blend_X2_below : GoodIn wsX1_blend wsX2_below := goodIn_r _ [10, 11, 12, 13, 14, 15, 7, 8, 9, 16, 17, 18, 19, 20, 21, 22, 23, 24, 25, 26, 27, 28, 29, 30, 31, 32, 33, 34, 35, 36, 37, 38, 39, 40, 41, 42, 43, 44, 45, 46, 47, 48, 49, 50, 51, 52, 53, 54, 55, 56, 57, 58, 59, 60, 61, 100, 101, 102, 103, 104, 105, 106, 107, 108, 111, 112, 113, 114] (by decide +kernel) (by decide +kernel)
set_option maxRecDepth 20000 in
theorem gX1_blend_X2_below : GoodIn wsX1_blend (wsV RX1 25 RX2 yX2_below wsX2_below) := goodIn_app (goodIn_of _ (by decide +kernel)) ggX1_blend_X2_below
set_option maxRecDepth 20000 in
theorem ggX1_blend_X1_blend : GoodIn wsX1_blend wsX1_blend := goodIn_r _ [0, 1, 2, 3, 4, 5, 6, 7, 8, 9, 10, 11, 12, 13, 14, 15, 16, 17, 18, 19, 20, 21, 22, 23, 24, 25, 26, 27, 28, 29, 30, 31, 32, 33, 34, 35, 36, 37, 38, 39, 40, 41, 42, 43, 44, 45, 46, 47, 48, 49, 50, 51, 52, 53, 54, 55, 56, 57, 58, 59, 60, 61, 62, 63, 64, 65, 66, 67, 68, 69, 70, 71, 72, 73, 74, 75, 76, 77, 78, 79, 80, 81, 82, 83, 84, 85, 86, 87, 88, 89, 90, 91, 92, 93, 94, 95, 96, 97, 98, 99, 100, 101, 102, 103, 104, 105, 106, 107, 108, 109, 110, 111, 112, 113, 114] (by decide +kernel) (by decide +kernel)
set_option maxRecDepth 20000 in
theorem gX1_blend_X1_blend : GoodIn wsX1_blend (wsV RX1 31 RX1 yX1_blend wsX1_blend) := goodIn_app (goodIn_of _ (by decide +kernel)) ggX1_blend_X1_blend
set_option maxRecDepth 20000 in
theorem ggX1_blend_X2_above : GoodIn wsX1_blend wsX2_above := goodIn_r _ [69, 11, 13, 12, 14, 70, 67, 68, 9, 16, 17, 18, 19, 20, 21, 22, 23, 24, 25, 26, 27, 28, 29, 30, 31, 32, 33, 34, 35, 36, 37, 38, 39, 40, 41, 42, 43, 44, 45, 46, 47, 48, 49, 50, 51, 52, 53, 54, 55, 56, 57, 58, 59, 60, 61, 100, 101, 102, 103, 104, 105, 106, 107, 108, 111, 112, 113, 114] (by decide +kernel) (by decide +kernel)
set_option maxRecDepth 20000 in
theorem gX1_blend_X2_above : GoodIn wsX1_blend (wsV RX1 38 RX2 yX2_above wsX2_above) := goodIn_app (goodIn_of _ (by decide +kernel)) ggX1_blend_X2_above
set_option maxRecDepth 20000 in
theorem ggX1_blend_X3_find : GoodIn wsX1_blend wsX3_find := goodIn_r _ [73, 74, 75, 76, 100, 101, 102, 103, 104, 105, 106, 107, 108] (by decide +kernel) (by decide +kernel)
set_option maxRecDepth 20000 in
theorem gX1_blend_X3_find : GoodIn wsX1_blend (va_wsS RX1 41 yX3_find wsX3_find) := goodIn_app (goodIn_of _ (by decide +kernel)) ggX1_blend_X3_find
set_option maxRecDepth 20000 in
theorem ggX1_blend_X2_chain : GoodIn wsX1_blend wsX2_chain := goodIn_r _ [80, 12, 11, 14, 70, 67, 68, 9, 69, 13, 16, 17, 18, 19, 20, 21, 22, 23, 24, 25, 26, 27, 28, 29, 30, 31, 32, 33, 34, 35, 36, 37, 38, 39, 40, 41, 42, 43, 44, 45, 46, 47, 48, 49, 50, 51, 52, 53, 54, 55, 56, 57, 58, 59, 60, 61, 100, 101, 102, 103, 104, 105, 106, 107, 108, 111, 112, 113, 114] (by decide +kernel) (by decide +kernel)
set_option maxRecDepth 20000 in
theorem gX1_blend_X2_chain : GoodIn wsX1_blend (wsV RX1 45 RX2 yX2_chain wsX2_chain) := goodIn_app (goodIn_of _ (by decide +kernel)) ggX1_blend_X2_chain
set_option maxRecDepth 20000 in
theorem ggX1_blend_X1_mixed : GoodIn wsX1_blend wsX1_mixed := goodIn_r _ [84, 85, 86, 87, 88, 89, 90, 91, 92, 93, 94, 95, 96, 97, 98, 109, 110] (by decide +kernel) (by decide +kernel)
set_option maxRecDepth 20000 in
theorem gX1_blend_X1_mixed : GoodIn wsX1_blend (wsV RX1 52 RX1 yX1_mixed wsX1_mixed) := goodIn_app (goodIn_of _ (by decide +kernel)) ggX1_blend_X1_mixed
set_option maxRecDepth 20000 in
theorem ggX1_blend_X2_join : GoodIn wsX1_blend wsX2_join := goodIn_r _ [19, 12, 11, 14, 13, 20, 21, 22, 23, 24, 25, 26, 27, 28, 29, 9, 30, 31, 32, 33, 34, 35, 36, 37, 38, 39, 40, 41, 42, 43, 44, 45, 46, 47, 48, 49, 50, 51, 52, 53, 16, 17, 18, 54, 55, 56, 57, 58, 59, 60, 61, 100, 101, 102, 103, 104, 105, 106, 107, 108, 111, 112, 113, 114] (by decide +kernel) (by decide +kernel)
set_option maxRecDepth 20000 in
theorem gX1_blend_X2_join : GoodIn wsX1_blend (wsV RX1 56 RX2 yX2_join wsX2_join) := goodIn_app (goodIn_of _ (by decide +kernel)) ggX1_blend_X2_join
theorem dX1_blend_0 : decode cX1_blend 0 = .ok (.aload_n 2, 1) := by decide +kernel
theorem dX1_blend_1 : decode cX1_blend 1 = .ok (.ifnull 10, 3) := by decide +kernel
theorem dX1_blend_4 : decode cX1_blend 4 = .ok (.iload 4, 2) := by decide +kernel
theorem dX1_blend_6 : decode cX1_blend 6 = .ok (.bipush 40, 2) := by decide +kernel
theorem dX1_blend_8 : decode cX1_blend 8 = .ok (.if_icmp .le 18, 3) := by decide +kernel
theorem dX1_blend_11 : decode cX1_blend 11 = .ok (.iload_n 1, 1) := by decide +kernel
theorem dX1_blend_12 : decode cX1_blend 12 = .ok (.ifCond .eq 8, 3) := by decide +kernel
theorem dX1_blend_15 : decode cX1_blend 15 = .ok (.iload_n 1, 1) := by decide +kernel
theorem dX1_blend_16 : decode cX1_blend 16 = .ok (.iconst 3, 1) := by decide +kernel
theorem dX1_blend_17 : decode cX1_blend 17 = .ok (.if_icmp .ne 7, 3) := by decide +kernel
theorem dX1_blend_20 : decode cX1_blend 20 = .ok (.aload_n 3, 1) := by decide +kernel
theorem dX1_blend_21 : decode cX1_blend 21 = .ok (.goto 4, 3) := by decide +kernel
theorem dX1_blend_24 : decode cX1_blend 24 = .ok (.aconst_null, 1) := by decide +kernel
theorem dX1_blend_25 : decode cX1_blend 25 = .ok (.areturn, 1) := by decide +kernel
theorem dX1_blend_26 : decode cX1_blend 26 = .ok (.aload_n 3, 1) := by decide +kernel
theorem dX1_blend_27 : decode cX1_blend 27 = .ok (.ifnonnull 14, 3) := by decide +kernel
theorem dX1_blend_30 : decode cX1_blend 30 = .ok (.iload_n 1, 1) := by decide +kernel
theorem dX1_blend_31 : decode cX1_blend 31 = .ok (.iconst 1, 1) := by decide +kernel
theorem dX1_blend_32 : decode cX1_blend 32 = .ok (.if_icmp .ne 7, 3) := by decide +kernel
theorem dX1_blend_35 : decode cX1_blend 35 = .ok (.aconst_null, 1) := by decide +kernel
theorem dX1_blend_36 : decode cX1_blend 36 = .ok (.goto 4, 3) := by decide +kernel
theorem dX1_blend_39 : decode cX1_blend 39 = .ok (.aload_n 2, 1) := by decide +kernel
theorem dX1_blend_40 : decode cX1_blend 40 = .ok (.areturn, 1) := by decide +kernel
theorem dX1_blend_41 : decode cX1_blend 41 = .ok (.aload_n 0, 1) := by decide +kernel
theorem dX1_blend_42 : decode cX1_blend 42 = .ok (.iload_n 1, 1) := by decide +kernel
theorem dX1_blend_43 : decode cX1_blend 43 = .ok (.aload_n 2, 1) := by decide +kernel
theorem dX1_blend_44 : decode cX1_blend 44 = .ok (.getfield 15, 3) := by decide +kernel
theorem dX1_blend_47 : decode cX1_blend 47 = .ok (.aload_n 0, 1) := by decide +kernel
theorem dX1_blend_48 : decode cX1_blend 48 = .ok (.getfield 9, 3) := by decide +kernel
theorem dX1_blend_51 : decode cX1_blend 51 = .ok (.aload_n 3, 1) := by decide +kernel
theorem dX1_blend_52 : decode cX1_blend 52 = .ok (.aload_n 2, 1) := by decide +kernel
theorem dX1_blend_53 : decode cX1_blend 53 = .ok (.getfield 21, 3) := by decide +kernel
theorem dX1_blend_56 : decode cX1_blend 56 = .ok (.iconst 0, 1) := by decide +kernel
theorem dX1_blend_57 : decode cX1_blend 57 = .ok (.invokevirtual 25, 3) := by decide +kernel
theorem dX1_blend_60 : decode cX1_blend 60 = .ok (.iload 4, 2) := by decide +kernel
theorem dX1_blend_62 : decode cX1_blend 62 = .ok (.iconst 1, 1) := by decide +kernel
theorem dX1_blend_63 : decode cX1_blend 63 = .ok (.iadd, 1) := by decide +kernel
theorem dX1_blend_64 : decode cX1_blend 64 = .ok (.invokevirtual 31, 3) := by decide +kernel
theorem dX1_blend_67 : decode cX1_blend 67 = .ok (.astore 5, 2) := by decide +kernel
theorem dX1_blend_69 : decode cX1_blend 69 = .ok (.aload_n 0, 1) := by decide +kernel
theorem dX1_blend_70 : decode cX1_blend 70 = .ok (.iload_n 1, 1) := by decide +kernel
theorem dX1_blend_71 : decode cX1_blend 71 = .ok (.aload_n 2, 1) := by decide +kernel
theorem dX1_blend_72 : decode cX1_blend 72 = .ok (.getfield 35, 3) := by decide +kernel
theorem dX1_blend_75 : decode cX1_blend 75 = .ok (.aload_n 0, 1) := by decide +kernel
theorem dX1_blend_76 : decode cX1_blend 76 = .ok (.getfield 9, 3) := by decide +kernel
theorem dX1_blend_79 : decode cX1_blend 79 = .ok (.aload_n 3, 1) := by decide +kernel
theorem dX1_blend_80 : decode cX1_blend 80 = .ok (.aload_n 2, 1) := by decide +kernel
theorem dX1_blend_81 : decode cX1_blend 81 = .ok (.getfield 21, 3) := by decide +kernel
theorem dX1_blend_84 : decode cX1_blend 84 = .ok (.iconst 0, 1) := by decide +kernel
theorem dX1_blend_85 : decode cX1_blend 85 = .ok (.invokevirtual 38, 3) := by decide +kernel
theorem dX1_blend_88 : decode cX1_blend 88 = .ok (.iload 4, 2) := by decide +kernel
theorem dX1_blend_90 : decode cX1_blend 90 = .ok (.iconst 1, 1) := by decide +kernel
theorem dX1_blend_91 : decode cX1_blend 91 = .ok (.iadd, 1) := by decide +kernel
theorem dX1_blend_92 : decode cX1_blend 92 = .ok (.invokevirtual 31, 3) := by decide +kernel
theorem dX1_blend_95 : decode cX1_blend 95 = .ok (.astore 6, 2) := by decide +kernel
theorem dX1_blend_97 : decode cX1_blend 97 = .ok (.aload_n 3, 1) := by decide +kernel
theorem dX1_blend_98 : decode cX1_blend 98 = .ok (.aload_n 2, 1) := by decide +kernel
theorem dX1_blend_99 : decode cX1_blend 99 = .ok (.getfield 21, 3) := by decide +kernel
theorem dX1_blend_102 : decode cX1_blend 102 = .ok (.invokestatic 41, 3) := by decide +kernel
theorem dX1_blend_105 : decode cX1_blend 105 = .ok (.astore 7, 2) := by decide +kernel
theorem dX1_blend_107 : decode cX1_blend 107 = .ok (.aload 7, 2) := by decide +kernel
theorem dX1_blend_109 : decode cX1_blend 109 = .ok (.ifnonnull 16, 3) := by decide +kernel
theorem dX1_blend_112 : decode cX1_blend 112 = .ok (.iload_n 1, 1) := by decide +kernel
theorem dX1_blend_113 : decode cX1_blend 113 = .ok (.iconst 1, 1) := by decide +kernel
theorem dX1_blend_114 : decode cX1_blend 114 = .ok (.if_icmp .eq 7, 3) := by decide +kernel
theorem dX1_blend_117 : decode cX1_blend 117 = .ok (.iconst 1, 1) := by decide +kernel
theorem dX1_blend_118 : decode cX1_blend 118 = .ok (.goto 21, 3) := by decide +kernel
theorem dX1_blend_121 : decode cX1_blend 121 = .ok (.iconst 0, 1) := by decide +kernel
theorem dX1_blend_122 : decode cX1_blend 122 = .ok (.goto 17, 3) := by decide +kernel
theorem dX1_blend_125 : decode cX1_blend 125 = .ok (.iload_n 1, 1) := by decide +kernel
theorem dX1_blend_126 : decode cX1_blend 126 = .ok (.ifCond .eq 8, 3) := by decide +kernel
theorem dX1_blend_129 : decode cX1_blend 129 = .ok (.iload_n 1, 1) := by decide +kernel
theorem dX1_blend_130 : decode cX1_blend 130 = .ok (.iconst 1, 1) := by decide +kernel
theorem dX1_blend_131 : decode cX1_blend 131 = .ok (.if_icmp .ne 7, 3) := by decide +kernel
theorem dX1_blend_134 : decode cX1_blend 134 = .ok (.iconst 1, 1) := by decide +kernel
theorem dX1_blend_135 : decode cX1_blend 135 = .ok (.goto 4, 3) := by decide +kernel
theorem dX1_blend_138 : decode cX1_blend 138 = .ok (.iconst 0, 1) := by decide +kernel
theorem dX1_blend_139 : decode cX1_blend 139 = .ok (.istore 8, 2) := by decide +kernel
theorem dX1_blend_141 : decode cX1_blend 141 = .ok (.iload 8, 2) := by decide +kernel
theorem dX1_blend_143 : decode cX1_blend 143 = .ok (.ifCond .ne 15, 3) := by decide +kernel
theorem dX1_blend_146 : decode cX1_blend 146 = .ok (.aload_n 0, 1) := by decide +kernel
theorem dX1_blend_147 : decode cX1_blend 147 = .ok (.getfield 9, 3) := by decide +kernel
theorem dX1_blend_150 : decode cX1_blend 150 = .ok (.aload 5, 2) := by decide +kernel
theorem dX1_blend_152 : decode cX1_blend 152 = .ok (.aload 6, 2) := by decide +kernel
theorem dX1_blend_154 : decode cX1_blend 154 = .ok (.invokevirtual 45, 3) := by decide +kernel
theorem dX1_blend_157 : decode cX1_blend 157 = .ok (.areturn, 1) := by decide +kernel
theorem dX1_blend_158 : decode cX1_blend 158 = .ok (.aload_n 0, 1) := by decide +kernel
theorem dX1_blend_159 : decode cX1_blend 159 = .ok (.getfield 9, 3) := by decide +kernel
theorem dX1_blend_162 : decode cX1_blend 162 = .ok (.aload 5, 2) := by decide +kernel
theorem dX1_blend_164 : decode cX1_blend 164 = .ok (.aload_n 2, 1) := by decide +kernel
theorem dX1_blend_165 : decode cX1_blend 165 = .ok (.getfield 21, 3) := by decide +kernel
theorem dX1_blend_168 : decode cX1_blend 168 = .ok (.aload 7, 2) := by decide +kernel
theorem dX1_blend_170 : decode cX1_blend 170 = .ok (.ifnonnull 10, 3) := by decide +kernel
theorem dX1_blend_173 : decode cX1_blend 173 = .ok (.aload_n 2, 1) := by decide +kernel
theorem dX1_blend_174 : decode cX1_blend 174 = .ok (.getfield 49, 3) := by decide +kernel
theorem dX1_blend_177 : decode cX1_blend 177 = .ok (.goto 16, 3) := by decide +kernel
theorem dX1_blend_180 : decode cX1_blend 180 = .ok (.aload_n 0, 1) := by decide +kernel
theorem dX1_blend_181 : decode cX1_blend 181 = .ok (.aload_n 2, 1) := by decide +kernel
theorem dX1_blend_182 : decode cX1_blend 182 = .ok (.getfield 49, 3) := by decide +kernel
theorem dX1_blend_185 : decode cX1_blend 185 = .ok (.aload 7, 2) := by decide +kernel
theorem dX1_blend_187 : decode cX1_blend 187 = .ok (.getfield 49, 3) := by decide +kernel
theorem dX1_blend_190 : decode cX1_blend 190 = .ok (.invokevirtual 52, 3) := by decide +kernel
theorem dX1_blend_193 : decode cX1_blend 193 = .ok (.aload 6, 2) := by decide +kernel
theorem dX1_blend_195 : decode cX1_blend 195 = .ok (.iconst 0, 1) := by decide +kernel
theorem dX1_blend_196 : decode cX1_blend 196 = .ok (.invokevirtual 56, 3) := by decide +kernel
theorem dX1_blend_199 : decode cX1_blend 199 = .ok (.areturn, 1) := by decide +kernel
set_option maxRecDepth 20000 in
theorem ggX1_mixed_X8_held : GoodIn wsX1_mixed wsX8_held := goodIn_r _ [8, 9, 10, 11, 12, 4, 13, 14, 3, 5] (by decide +kernel) (by decide +kernel)
set_option maxRecDepth 20000 in
theorem gX1_mixed_X8_held_n63 : GoodIn wsX1_mixed (wsX8_held) := ggX1_mixed_X8_held
theorem dX1_mixed_0 : decode cX1_mixed 0 = .ok (.aload_n 0, 1) := by decide +kernel
theorem dX1_mixed_1 : decode cX1_mixed 1 = .ok (.getfield 60, 3) := by decide +kernel
theorem dX1_mixed_4 : decode cX1_mixed 4 = .ok (.tableswitch 75 1 5 #[36, 38, 45, 51, 61], 36) := by decide +kernel
theorem dX1_mixed_40 : decode cX1_mixed 40 = .ok (.iload_n 2, 1) := by decide +kernel
theorem dX1_mixed_41 : decode cX1_mixed 41 = .ok (.ireturn, 1) := by decide +kernel
theorem dX1_mixed_42 : decode cX1_mixed 42 = .ok (.iload_n 2, 1) := by decide +kernel
theorem dX1_mixed_43 : decode cX1_mixed 43 = .ok (.iload_n 1, 1) := by decide +kernel
theorem dX1_mixed_44 : decode cX1_mixed 44 = .ok (.iadd, 1) := by decide +kernel
theorem dX1_mixed_45 : decode cX1_mixed 45 = .ok (.invokestatic 63, 3) := by decide +kernel
theorem dX1_mixed_48 : decode cX1_mixed 48 = .ok (.ireturn, 1) := by decide +kernel
theorem dX1_mixed_49 : decode cX1_mixed 49 = .ok (.iload_n 1, 1) := by decide +kernel
theorem dX1_mixed_50 : decode cX1_mixed 50 = .ok (.iload_n 2, 1) := by decide +kernel
theorem dX1_mixed_51 : decode cX1_mixed 51 = .ok (.invokestatic 67, 3) := by decide +kernel
theorem dX1_mixed_54 : decode cX1_mixed 54 = .ok (.ireturn, 1) := by decide +kernel
theorem dX1_mixed_55 : decode cX1_mixed 55 = .ok (.iload_n 1, 1) := by decide +kernel
theorem dX1_mixed_56 : decode cX1_mixed 56 = .ok (.iload_n 2, 1) := by decide +kernel
theorem dX1_mixed_57 : decode cX1_mixed 57 = .ok (.iadd, 1) := by decide +kernel
theorem dX1_mixed_58 : decode cX1_mixed 58 = .ok (.iload_n 1, 1) := by decide +kernel
theorem dX1_mixed_59 : decode cX1_mixed 59 = .ok (.iload_n 2, 1) := by decide +kernel
theorem dX1_mixed_60 : decode cX1_mixed 60 = .ok (.invokestatic 67, 3) := by decide +kernel
theorem dX1_mixed_63 : decode cX1_mixed 63 = .ok (.isub, 1) := by decide +kernel
theorem dX1_mixed_64 : decode cX1_mixed 64 = .ok (.ireturn, 1) := by decide +kernel
theorem dX1_mixed_65 : decode cX1_mixed 65 = .ok (.iload_n 2, 1) := by decide +kernel
theorem dX1_mixed_66 : decode cX1_mixed 66 = .ok (.iload_n 1, 1) := by decide +kernel
theorem dX1_mixed_67 : decode cX1_mixed 67 = .ok (.iadd, 1) := by decide +kernel
theorem dX1_mixed_68 : decode cX1_mixed 68 = .ok (.invokestatic 63, 3) := by decide +kernel
theorem dX1_mixed_71 : decode cX1_mixed 71 = .ok (.iconst 2, 1) := by decide +kernel
theorem dX1_mixed_72 : decode cX1_mixed 72 = .ok (.iload_n 2, 1) := by decide +kernel
theorem dX1_mixed_73 : decode cX1_mixed 73 = .ok (.imul, 1) := by decide +kernel
theorem dX1_mixed_74 : decode cX1_mixed 74 = .ok (.isub, 1) := by decide +kernel
theorem dX1_mixed_75 : decode cX1_mixed 75 = .ok (.invokestatic 63, 3) := by decide +kernel
theorem dX1_mixed_78 : decode cX1_mixed 78 = .ok (.ireturn, 1) := by decide +kernel
theorem dX1_mixed_79 : decode cX1_mixed 79 = .ok (.iload_n 1, 1) := by decide +kernel
theorem dX1_mixed_80 : decode cX1_mixed 80 = .ok (.ireturn, 1) := by decide +kernel
theorem dX2_init_0 : decode cX2_init 0 = .ok (.aload_n 0, 1) := by decide +kernel
theorem dX2_init_1 : decode cX2_init 1 = .ok (.invokespecial 3, 3) := by decide +kernel
theorem dX2_init_4 : decode cX2_init 4 = .ok (.return_, 1) := by decide +kernel
set_option maxRecDepth 20000 in
theorem ggX2_node_X3_init : GoodIn wsX2_node wsX3_init := goodIn_r _ [16, 17, 18, 19] (by decide +kernel) (by decide +kernel)
set_option maxRecDepth 20000 in
theorem gX2_node_X3_init_n17 : GoodIn wsX2_node (wsX3_init) := ggX2_node_X3_init
set_option maxRecDepth 20000 in
theorem ggX2_node_X3_countOf : GoodIn wsX2_node wsX3_countOf := goodIn_r _ [22, 23, 32, 33, 34, 35, 36, 37, 38, 39, 40] (by decide +kernel) (by decide +kernel)
set_option maxRecDepth 20000 in
theorem gX2_node_X3_countOf : GoodIn wsX2_node (va_wsS RX2 43 yX3_countOf wsX3_countOf) := goodIn_app (goodIn_of _ (by decide +kernel)) ggX2_node_X3_countOf
set_option maxRecDepth 20000 in
theorem ggX2_node_X3_sumOf : GoodIn wsX2_node wsX3_sumOf := goodIn_r _ [26, 27, 32, 33, 34, 35, 36, 37, 38, 39, 40] (by decide +kernel) (by decide +kernel)
set_option maxRecDepth 20000 in
theorem gX2_node_X3_sumOf : GoodIn wsX2_node (va_wsS RX2 50 yX3_sumOf wsX3_sumOf) := goodIn_app (goodIn_of _ (by decide +kernel)) ggX2_node_X3_sumOf
theorem dX2_node_0 : decode cX2_node 0 = .ok (.aload_n 0, 1) := by decide +kernel
theorem dX2_node_1 : decode cX2_node 1 = .ok (.getfield 9, 3) := by decide +kernel
theorem dX2_node_4 : decode cX2_node 4 = .ok (.astore 5, 2) := by decide +kernel
theorem dX2_node_6 : decode cX2_node 6 = .ok (.aload 5, 2) := by decide +kernel
theorem dX2_node_8 : decode cX2_node 8 = .ok (.ifnonnull 30, 3) := by decide +kernel
theorem dX2_node_11 : decode cX2_node 11 = .ok (.new 15, 3) := by decide +kernel
theorem dX2_node_14 : decode cX2_node 14 = .ok (.dup, 1) := by decide +kernel
theorem dX2_node_15 : decode cX2_node 15 = .ok (.invokespecial 17, 3) := by decide +kernel
theorem dX2_node_18 : decode cX2_node 18 = .ok (.astore 5, 2) := by decide +kernel
theorem dX2_node_20 : decode cX2_node 20 = .ok (.aload 5, 2) := by decide +kernel
theorem dX2_node_22 : decode cX2_node 22 = .ok (.aload_n 0, 1) := by decide +kernel
theorem dX2_node_23 : decode cX2_node 23 = .ok (.getfield 18, 3) := by decide +kernel
theorem dX2_node_26 : decode cX2_node 26 = .ok (.putfield 21, 3) := by decide +kernel
theorem dX2_node_29 : decode cX2_node 29 = .ok (.aload_n 0, 1) := by decide +kernel
theorem dX2_node_30 : decode cX2_node 30 = .ok (.aload 5, 2) := by decide +kernel
theorem dX2_node_32 : decode cX2_node 32 = .ok (.putfield 18, 3) := by decide +kernel
theorem dX2_node_35 : decode cX2_node 35 = .ok (.goto 12, 3) := by decide +kernel
theorem dX2_node_38 : decode cX2_node 38 = .ok (.aload_n 0, 1) := by decide +kernel
theorem dX2_node_39 : decode cX2_node 39 = .ok (.aload 5, 2) := by decide +kernel
theorem dX2_node_41 : decode cX2_node 41 = .ok (.getfield 24, 3) := by decide +kernel
theorem dX2_node_44 : decode cX2_node 44 = .ok (.putfield 9, 3) := by decide +kernel
theorem dX2_node_47 : decode cX2_node 47 = .ok (.aload_n 0, 1) := by decide +kernel
theorem dX2_node_48 : decode cX2_node 48 = .ok (.dup, 1) := by decide +kernel
theorem dX2_node_49 : decode cX2_node 49 = .ok (.getfield 27, 3) := by decide +kernel
theorem dX2_node_52 : decode cX2_node 52 = .ok (.iconst 1, 1) := by decide +kernel
theorem dX2_node_53 : decode cX2_node 53 = .ok (.iadd, 1) := by decide +kernel
theorem dX2_node_54 : decode cX2_node 54 = .ok (.putfield 27, 3) := by decide +kernel
theorem dX2_node_57 : decode cX2_node 57 = .ok (.aload 5, 2) := by decide +kernel
theorem dX2_node_59 : decode cX2_node 59 = .ok (.iload_n 2, 1) := by decide +kernel
theorem dX2_node_60 : decode cX2_node 60 = .ok (.putfield 31, 3) := by decide +kernel
theorem dX2_node_63 : decode cX2_node 63 = .ok (.aload 5, 2) := by decide +kernel
theorem dX2_node_65 : decode cX2_node 65 = .ok (.iload_n 3, 1) := by decide +kernel
theorem dX2_node_66 : decode cX2_node 66 = .ok (.putfield 34, 3) := by decide +kernel
theorem dX2_node_69 : decode cX2_node 69 = .ok (.aload 5, 2) := by decide +kernel
theorem dX2_node_71 : decode cX2_node 71 = .ok (.aload_n 1, 1) := by decide +kernel
theorem dX2_node_72 : decode cX2_node 72 = .ok (.putfield 37, 3) := by decide +kernel
theorem dX2_node_75 : decode cX2_node 75 = .ok (.aload 5, 2) := by decide +kernel
theorem dX2_node_77 : decode cX2_node 77 = .ok (.aload 4, 2) := by decide +kernel
theorem dX2_node_79 : decode cX2_node 79 = .ok (.putfield 40, 3) := by decide +kernel
theorem dX2_node_82 : decode cX2_node 82 = .ok (.aload 5, 2) := by decide +kernel
theorem dX2_node_84 : decode cX2_node 84 = .ok (.aload_n 1, 1) := by decide +kernel
theorem dX2_node_85 : decode cX2_node 85 = .ok (.invokestatic 43, 3) := by decide +kernel
theorem dX2_node_88 : decode cX2_node 88 = .ok (.iconst 1, 1) := by decide +kernel
theorem dX2_node_89 : decode cX2_node 89 = .ok (.iadd, 1) := by decide +kernel
theorem dX2_node_90 : decode cX2_node 90 = .ok (.aload 4, 2) := by decide +kernel
theorem dX2_node_92 : decode cX2_node 92 = .ok (.invokestatic 43, 3) := by decide +kernel
theorem dX2_node_95 : decode cX2_node 95 = .ok (.iadd, 1) := by decide +kernel
theorem dX2_node_96 : decode cX2_node 96 = .ok (.putfield 47, 3) := by decide +kernel
theorem dX2_node_99 : decode cX2_node 99 = .ok (.aload 5, 2) := by decide +kernel
theorem dX2_node_101 : decode cX2_node 101 = .ok (.aload_n 1, 1) := by decide +kernel
theorem dX2_node_102 : decode cX2_node 102 = .ok (.invokestatic 50, 3) := by decide +kernel
theorem dX2_node_105 : decode cX2_node 105 = .ok (.iload_n 3, 1) := by decide +kernel
theorem dX2_node_106 : decode cX2_node 106 = .ok (.i2l, 1) := by decide +kernel
theorem dX2_node_107 : decode cX2_node 107 = .ok (.ladd, 1) := by decide +kernel
theorem dX2_node_108 : decode cX2_node 108 = .ok (.aload 4, 2) := by decide +kernel
theorem dX2_node_110 : decode cX2_node 110 = .ok (.invokestatic 50, 3) := by decide +kernel
theorem dX2_node_113 : decode cX2_node 113 = .ok (.ladd, 1) := by decide +kernel
theorem dX2_node_114 : decode cX2_node 114 = .ok (.putfield 54, 3) := by decide +kernel
theorem dX2_node_117 : decode cX2_node 117 = .ok (.aload 5, 2) := by decide +kernel
theorem dX2_node_119 : decode cX2_node 119 = .ok (.areturn, 1) := by decide +kernel
theorem dX2_isCrowded_0 : decode cX2_isCrowded 0 = .ok (.aload_n 0, 1) := by decide +kernel
theorem dX2_isCrowded_1 : decode cX2_isCrowded 1 = .ok (.getfield 27, 3) := by decide +kernel
theorem dX2_isCrowded_4 : decode cX2_isCrowded 4 = .ok (.sipush 8192, 3) := by decide +kernel
theorem dX2_isCrowded_7 : decode cX2_isCrowded 7 = .ok (.if_icmp .lt 7, 3) := by decide +kernel
theorem dX2_isCrowded_10 : decode cX2_isCrowded 10 = .ok (.iconst 1, 1) := by decide +kernel
theorem dX2_isCrowded_11 : decode cX2_isCrowded 11 = .ok (.goto 4, 3) := by decide +kernel
theorem dX2_isCrowded_14 : decode cX2_isCrowded 14 = .ok (.iconst 0, 1) := by decide +kernel
theorem dX2_isCrowded_15 : decode cX2_isCrowded 15 = .ok (.ireturn, 1) := by decide +kernel
theorem dX2_startKeeping_0 : decode cX2_startKeeping 0 = .ok (.aload_n 0, 1) := by decide +kernel
theorem dX2_startKeeping_1 : decode cX2_startKeeping 1 = .ok (.dup, 1) := by decide +kernel
theorem dX2_startKeeping_2 : decode cX2_startKeeping 2 = .ok (.getfield 58, 3) := by decide +kernel
theorem dX2_startKeeping_5 : decode cX2_startKeeping 5 = .ok (.iconst 1, 1) := by decide +kernel
theorem dX2_startKeeping_6 : decode cX2_startKeeping 6 = .ok (.iadd, 1) := by decide +kernel
theorem dX2_startKeeping_7 : decode cX2_startKeeping 7 = .ok (.putfield 58, 3) := by decide +kernel
theorem dX2_startKeeping_10 : decode cX2_startKeeping 10 = .ok (.return_, 1) := by decide +kernel
set_option maxRecDepth 20000 in
theorem ggX2_keepAll_X2_keep : GoodIn wsX2_keepAll wsX2_keep := goodIn_r _ [5, 6, 7, 8, 9, 1, 2, 3, 4, 10, 11, 12, 13, 14, 15, 16, 17, 18, 19, 20, 21, 22] (by decide +kernel) (by decide +kernel)
set_option maxRecDepth 20000 in
theorem gX2_keepAll_X2_keep : GoodIn wsX2_keepAll (wsV RX2 61 RX2 yX2_keep wsX2_keep) := goodIn_app (goodIn_of _ (by decide +kernel)) ggX2_keepAll_X2_keep
theorem dX2_keepAll_0 : decode cX2_keepAll 0 = .ok (.iconst 0, 1) := by decide +kernel
theorem dX2_keepAll_1 : decode cX2_keepAll 1 = .ok (.istore_n 2, 1) := by decide +kernel
theorem dX2_keepAll_2 : decode cX2_keepAll 2 = .ok (.iload_n 2, 1) := by decide +kernel
theorem dX2_keepAll_3 : decode cX2_keepAll 3 = .ok (.aload_n 1, 1) := by decide +kernel
theorem dX2_keepAll_4 : decode cX2_keepAll 4 = .ok (.arraylength, 1) := by decide +kernel
theorem dX2_keepAll_5 : decode cX2_keepAll 5 = .ok (.if_icmp .ge 17, 3) := by decide +kernel
theorem dX2_keepAll_8 : decode cX2_keepAll 8 = .ok (.aload_n 0, 1) := by decide +kernel
theorem dX2_keepAll_9 : decode cX2_keepAll 9 = .ok (.aload_n 1, 1) := by decide +kernel
theorem dX2_keepAll_10 : decode cX2_keepAll 10 = .ok (.iload_n 2, 1) := by decide +kernel
theorem dX2_keepAll_11 : decode cX2_keepAll 11 = .ok (.aaload, 1) := by decide +kernel
theorem dX2_keepAll_12 : decode cX2_keepAll 12 = .ok (.iconst 0, 1) := by decide +kernel
theorem dX2_keepAll_13 : decode cX2_keepAll 13 = .ok (.invokevirtual 61, 3) := by decide +kernel
theorem dX2_keepAll_16 : decode cX2_keepAll 16 = .ok (.iinc 2 1, 3) := by decide +kernel
theorem dX2_keepAll_19 : decode cX2_keepAll 19 = .ok (.goto (-17), 3) := by decide +kernel
theorem dX2_keepAll_22 : decode cX2_keepAll 22 = .ok (.return_, 1) := by decide +kernel
set_option maxRecDepth 20000 in
theorem ggX2_keep_X2_keep : GoodIn wsX2_keep wsX2_keep := goodIn_r _ [0, 1, 2, 3, 4, 5, 6, 7, 8, 9, 10, 11, 12, 13, 14, 15, 16, 17, 18, 19, 20, 21] (by decide +kernel) (by decide +kernel)
set_option maxRecDepth 20000 in
theorem gX2_keep_X2_keep : GoodIn wsX2_keep (wsV RX2 61 RX2 yX2_keep wsX2_keep) := goodIn_app (goodIn_of _ (by decide +kernel)) ggX2_keep_X2_keep
theorem dX2_keep_0 : decode cX2_keep 0 = .ok (.aload_n 1, 1) := by decide +kernel
theorem dX2_keep_1 : decode cX2_keep 1 = .ok (.ifnull 20, 3) := by decide +kernel
theorem dX2_keep_4 : decode cX2_keep 4 = .ok (.aload_n 1, 1) := by decide +kernel
theorem dX2_keep_5 : decode cX2_keep 5 = .ok (.getfield 65, 3) := by decide +kernel
theorem dX2_keep_8 : decode cX2_keep 8 = .ok (.aload_n 0, 1) := by decide +kernel
theorem dX2_keep_9 : decode cX2_keep 9 = .ok (.getfield 58, 3) := by decide +kernel
theorem dX2_keep_12 : decode cX2_keep 12 = .ok (.if_icmp .eq 9, 3) := by decide +kernel
theorem dX2_keep_15 : decode cX2_keep 15 = .ok (.iload_n 2, 1) := by decide +kernel
theorem dX2_keep_16 : decode cX2_keep 16 = .ok (.bipush 40, 2) := by decide +kernel
theorem dX2_keep_18 : decode cX2_keep 18 = .ok (.if_icmp .le 4, 3) := by decide +kernel
theorem dX2_keep_21 : decode cX2_keep 21 = .ok (.return_, 1) := by decide +kernel
theorem dX2_keep_22 : decode cX2_keep 22 = .ok (.aload_n 1, 1) := by decide +kernel
theorem dX2_keep_23 : decode cX2_keep 23 = .ok (.aload_n 0, 1) := by decide +kernel
theorem dX2_keep_24 : decode cX2_keep 24 = .ok (.getfield 58, 3) := by decide +kernel
theorem dX2_keep_27 : decode cX2_keep 27 = .ok (.putfield 65, 3) := by decide +kernel
theorem dX2_keep_30 : decode cX2_keep 30 = .ok (.aload_n 0, 1) := by decide +kernel
theorem dX2_keep_31 : decode cX2_keep 31 = .ok (.aload_n 1, 1) := by decide +kernel
theorem dX2_keep_32 : decode cX2_keep 32 = .ok (.getfield 37, 3) := by decide +kernel
theorem dX2_keep_35 : decode cX2_keep 35 = .ok (.iload_n 2, 1) := by decide +kernel
theorem dX2_keep_36 : decode cX2_keep 36 = .ok (.iconst 1, 1) := by decide +kernel
theorem dX2_keep_37 : decode cX2_keep 37 = .ok (.iadd, 1) := by decide +kernel
theorem dX2_keep_38 : decode cX2_keep 38 = .ok (.invokevirtual 61, 3) := by decide +kernel
theorem dX2_keep_41 : decode cX2_keep 41 = .ok (.aload_n 0, 1) := by decide +kernel
theorem dX2_keep_42 : decode cX2_keep 42 = .ok (.aload_n 1, 1) := by decide +kernel
theorem dX2_keep_43 : decode cX2_keep 43 = .ok (.getfield 40, 3) := by decide +kernel
theorem dX2_keep_46 : decode cX2_keep 46 = .ok (.iload_n 2, 1) := by decide +kernel
theorem dX2_keep_47 : decode cX2_keep 47 = .ok (.iconst 1, 1) := by decide +kernel
theorem dX2_keep_48 : decode cX2_keep 48 = .ok (.iadd, 1) := by decide +kernel
theorem dX2_keep_49 : decode cX2_keep 49 = .ok (.invokevirtual 61, 3) := by decide +kernel
theorem dX2_keep_52 : decode cX2_keep 52 = .ok (.return_, 1) := by decide +kernel
theorem dX2_spareTheRest_0 : decode cX2_spareTheRest 0 = .ok (.aload_n 0, 1) := by decide +kernel
theorem dX2_spareTheRest_1 : decode cX2_spareTheRest 1 = .ok (.aconst_null, 1) := by decide +kernel
theorem dX2_spareTheRest_2 : decode cX2_spareTheRest 2 = .ok (.putfield 9, 3) := by decide +kernel
theorem dX2_spareTheRest_5 : decode cX2_spareTheRest 5 = .ok (.aload_n 0, 1) := by decide +kernel
theorem dX2_spareTheRest_6 : decode cX2_spareTheRest 6 = .ok (.iconst 0, 1) := by decide +kernel
theorem dX2_spareTheRest_7 : decode cX2_spareTheRest 7 = .ok (.putfield 27, 3) := by decide +kernel
theorem dX2_spareTheRest_10 : decode cX2_spareTheRest 10 = .ok (.aload_n 0, 1) := by decide +kernel
theorem dX2_spareTheRest_11 : decode cX2_spareTheRest 11 = .ok (.getfield 18, 3) := by decide +kernel
theorem dX2_spareTheRest_14 : decode cX2_spareTheRest 14 = .ok (.astore_n 1, 1) := by decide +kernel
theorem dX2_spareTheRest_15 : decode cX2_spareTheRest 15 = .ok (.aload_n 1, 1) := by decide +kernel
theorem dX2_spareTheRest_16 : decode cX2_spareTheRest 16 = .ok (.ifnull 35, 3) := by decide +kernel
theorem dX2_spareTheRest_19 : decode cX2_spareTheRest 19 = .ok (.aload_n 1, 1) := by decide +kernel
theorem dX2_spareTheRest_20 : decode cX2_spareTheRest 20 = .ok (.getfield 65, 3) := by decide +kernel
theorem dX2_spareTheRest_23 : decode cX2_spareTheRest 23 = .ok (.aload_n 0, 1) := by decide +kernel
theorem dX2_spareTheRest_24 : decode cX2_spareTheRest 24 = .ok (.getfield 58, 3) := by decide +kernel
theorem dX2_spareTheRest_27 : decode cX2_spareTheRest 27 = .ok (.if_icmp .eq 16, 3) := by decide +kernel
theorem dX2_spareTheRest_30 : decode cX2_spareTheRest 30 = .ok (.aload_n 1, 1) := by decide +kernel
theorem dX2_spareTheRest_31 : decode cX2_spareTheRest 31 = .ok (.aload_n 0, 1) := by decide +kernel
theorem dX2_spareTheRest_32 : decode cX2_spareTheRest 32 = .ok (.getfield 9, 3) := by decide +kernel
theorem dX2_spareTheRest_35 : decode cX2_spareTheRest 35 = .ok (.putfield 24, 3) := by decide +kernel
theorem dX2_spareTheRest_38 : decode cX2_spareTheRest 38 = .ok (.aload_n 0, 1) := by decide +kernel
theorem dX2_spareTheRest_39 : decode cX2_spareTheRest 39 = .ok (.aload_n 1, 1) := by decide +kernel
theorem dX2_spareTheRest_40 : decode cX2_spareTheRest 40 = .ok (.putfield 9, 3) := by decide +kernel
theorem dX2_spareTheRest_43 : decode cX2_spareTheRest 43 = .ok (.aload_n 1, 1) := by decide +kernel
theorem dX2_spareTheRest_44 : decode cX2_spareTheRest 44 = .ok (.getfield 21, 3) := by decide +kernel
theorem dX2_spareTheRest_47 : decode cX2_spareTheRest 47 = .ok (.astore_n 1, 1) := by decide +kernel
theorem dX2_spareTheRest_48 : decode cX2_spareTheRest 48 = .ok (.goto (-33), 3) := by decide +kernel
theorem dX2_spareTheRest_51 : decode cX2_spareTheRest 51 = .ok (.return_, 1) := by decide +kernel
theorem dX2_isBalanced_0 : decode cX2_isBalanced 0 = .ok (.iload_n 0, 1) := by decide +kernel
theorem dX2_isBalanced_1 : decode cX2_isBalanced 1 = .ok (.iconst 3, 1) := by decide +kernel
theorem dX2_isBalanced_2 : decode cX2_isBalanced 2 = .ok (.iload_n 1, 1) := by decide +kernel
theorem dX2_isBalanced_3 : decode cX2_isBalanced 3 = .ok (.imul, 1) := by decide +kernel
theorem dX2_isBalanced_4 : decode cX2_isBalanced 4 = .ok (.if_icmp .gt 14, 3) := by decide +kernel
theorem dX2_isBalanced_7 : decode cX2_isBalanced 7 = .ok (.iload_n 1, 1) := by decide +kernel
theorem dX2_isBalanced_8 : decode cX2_isBalanced 8 = .ok (.iconst 3, 1) := by decide +kernel
theorem dX2_isBalanced_9 : decode cX2_isBalanced 9 = .ok (.iload_n 0, 1) := by decide +kernel
theorem dX2_isBalanced_10 : decode cX2_isBalanced 10 = .ok (.imul, 1) := by decide +kernel
theorem dX2_isBalanced_11 : decode cX2_isBalanced 11 = .ok (.if_icmp .gt 7, 3) := by decide +kernel
theorem dX2_isBalanced_14 : decode cX2_isBalanced 14 = .ok (.iconst 1, 1) := by decide +kernel
theorem dX2_isBalanced_15 : decode cX2_isBalanced 15 = .ok (.goto 4, 3) := by decide +kernel
theorem dX2_isBalanced_18 : decode cX2_isBalanced 18 = .ok (.iconst 0, 1) := by decide +kernel
theorem dX2_isBalanced_19 : decode cX2_isBalanced 19 = .ok (.ireturn, 1) := by decide +kernel
set_option maxRecDepth 20000 in
theorem ggX2_join_X3_weightOf : GoodIn wsX2_join wsX3_weightOf := goodIn_r _ [8, 9, 10, 7, 11, 12, 51, 52, 53, 54, 55, 56, 57, 58, 59] (by decide +kernel) (by decide +kernel)
set_option maxRecDepth 20000 in
theorem gX2_join_X3_weightOf : GoodIn wsX2_join (va_wsS RX2 68 yX3_weightOf wsX3_weightOf) := goodIn_app (goodIn_of _ (by decide +kernel)) ggX2_join_X3_weightOf
set_option maxRecDepth 20000 in
theorem ggX2_join_X2_isBalanced : GoodIn wsX2_join wsX2_isBalanced := goodIn_r _ [16] (by decide +kernel) (by decide +kernel)
set_option maxRecDepth 20000 in
theorem gX2_join_X2_isBalanced : GoodIn wsX2_join (va_wsS RX2 71 yX2_isBalanced wsX2_isBalanced) := goodIn_app (goodIn_of _ (by decide +kernel)) ggX2_join_X2_isBalanced
set_option maxRecDepth 20000 in
theorem ggX2_join_X2_node : GoodIn wsX2_join wsX2_node := goodIn_r _ [20, 21, 22, 23, 7, 24, 25, 26, 27, 2, 3, 1, 4, 28, 29, 30, 31, 32, 33, 34, 35, 10, 11, 12, 36, 37, 38, 39, 60, 61, 62, 63, 51, 52, 53, 54, 55, 56, 57, 58, 59] (by decide +kernel) (by decide +kernel)
set_option maxRecDepth 20000 in
theorem gX2_join_X2_node : GoodIn wsX2_join (wsV RX2 75 RX2 yX2_node wsX2_node) := goodIn_app (goodIn_of _ (by decide +kernel)) ggX2_join_X2_node
set_option maxRecDepth 20000 in
theorem ggX2_join_X2_join : GoodIn wsX2_join wsX2_join := goodIn_r _ [0, 1, 2, 3, 4, 5, 6, 7, 8, 9, 10, 11, 12, 13, 14, 15, 16, 17, 18, 19, 20, 21, 22, 23, 24, 25, 26, 27, 28, 29, 30, 31, 32, 33, 34, 35, 36, 37, 38, 39, 40, 41, 42, 43, 44, 45, 46, 47, 48, 49, 50, 51, 52, 53, 54, 55, 56, 57, 58, 59, 60, 61, 62, 63] (by decide +kernel) (by decide +kernel)
set_option maxRecDepth 20000 in
theorem gX2_join_X2_join : GoodIn wsX2_join (wsV RX2 79 RX2 yX2_join wsX2_join) := goodIn_app (goodIn_of _ (by decide +kernel)) ggX2_join_X2_join
set_option maxRecDepth 20000 in
theorem ggX2_join_X2_turnedLeft : GoodIn wsX2_join wsX2_turnedLeft := goodIn_r _ [46, 1, 4, 2, 3, 5, 6, 7, 8, 9, 10, 11, 12, 13, 14, 15, 16, 17, 18, 19, 20, 21, 22, 23, 24, 25, 26, 27, 28, 29, 30, 31, 32, 33, 34, 35, 36, 37, 38, 39, 51, 52, 53, 54, 55, 56, 57, 58, 59, 60, 61, 62, 63] (by decide +kernel) (by decide +kernel)
set_option maxRecDepth 20000 in
theorem gX2_join_X2_turnedLeft : GoodIn wsX2_join (wsV RX2 83 RX2 yX2_turnedLeft wsX2_turnedLeft) := goodIn_app (goodIn_of _ (by decide +kernel)) ggX2_join_X2_turnedLeft
set_option maxRecDepth 20000 in
theorem ggX2_join_X2_turnedRight : GoodIn wsX2_join wsX2_turnedRight := goodIn_r _ [50, 4, 1, 2, 3, 5, 6, 7, 8, 9, 10, 11, 12, 13, 14, 15, 16, 17, 18, 19, 20, 21, 22, 23, 24, 25, 26, 27, 28, 29, 30, 31, 32, 33, 34, 35, 36, 37, 38, 39, 51, 52, 53, 54, 55, 56, 57, 58, 59, 60, 61, 62, 63] (by decide +kernel) (by decide +kernel)
set_option maxRecDepth 20000 in
theorem gX2_join_X2_turnedRight : GoodIn wsX2_join (wsV RX2 86 RX2 yX2_turnedRight wsX2_turnedRight) := goodIn_app (goodIn_of _ (by decide +kernel)) ggX2_join_X2_turnedRight
theorem dX2_join_0 : decode cX2_join 0 = .ok (.aload_n 1, 1) := by decide +kernel
theorem dX2_join_1 : decode cX2_join 1 = .ok (.invokestatic 68, 3) := by decide +kernel
theorem dX2_join_4 : decode cX2_join 4 = .ok (.istore 6, 2) := by decide +kernel
theorem dX2_join_6 : decode cX2_join 6 = .ok (.aload 4, 2) := by decide +kernel
theorem dX2_join_8 : decode cX2_join 8 = .ok (.invokestatic 68, 3) := by decide +kernel
theorem dX2_join_11 : decode cX2_join 11 = .ok (.istore 7, 2) := by decide +kernel
theorem dX2_join_13 : decode cX2_join 13 = .ok (.iload 5, 2) := by decide +kernel
theorem dX2_join_15 : decode cX2_join 15 = .ok (.bipush 40, 2) := by decide +kernel
theorem dX2_join_17 : decode cX2_join 17 = .ok (.if_icmp .gt 13, 3) := by decide +kernel
theorem dX2_join_20 : decode cX2_join 20 = .ok (.iload 6, 2) := by decide +kernel
theorem dX2_join_22 : decode cX2_join 22 = .ok (.iload 7, 2) := by decide +kernel
theorem dX2_join_24 : decode cX2_join 24 = .ok (.invokestatic 71, 3) := by decide +kernel
theorem dX2_join_27 : decode cX2_join 27 = .ok (.ifCond .eq 13, 3) := by decide +kernel
theorem dX2_join_30 : decode cX2_join 30 = .ok (.aload_n 0, 1) := by decide +kernel
theorem dX2_join_31 : decode cX2_join 31 = .ok (.aload_n 1, 1) := by decide +kernel
theorem dX2_join_32 : decode cX2_join 32 = .ok (.iload_n 2, 1) := by decide +kernel
theorem dX2_join_33 : decode cX2_join 33 = .ok (.iload_n 3, 1) := by decide +kernel
theorem dX2_join_34 : decode cX2_join 34 = .ok (.aload 4, 2) := by decide +kernel
theorem dX2_join_36 : decode cX2_join 36 = .ok (.invokevirtual 75, 3) := by decide +kernel
theorem dX2_join_39 : decode cX2_join 39 = .ok (.areturn, 1) := by decide +kernel
theorem dX2_join_40 : decode cX2_join 40 = .ok (.aload_n 1, 1) := by decide +kernel
theorem dX2_join_41 : decode cX2_join 41 = .ok (.ifnull 43, 3) := by decide +kernel
theorem dX2_join_44 : decode cX2_join 44 = .ok (.iload 6, 2) := by decide +kernel
theorem dX2_join_46 : decode cX2_join 46 = .ok (.iload 7, 2) := by decide +kernel
theorem dX2_join_48 : decode cX2_join 48 = .ok (.if_icmp .le 36, 3) := by decide +kernel
theorem dX2_join_51 : decode cX2_join 51 = .ok (.aload_n 0, 1) := by decide +kernel
theorem dX2_join_52 : decode cX2_join 52 = .ok (.aload_n 1, 1) := by decide +kernel
theorem dX2_join_53 : decode cX2_join 53 = .ok (.getfield 37, 3) := by decide +kernel
theorem dX2_join_56 : decode cX2_join 56 = .ok (.aload_n 1, 1) := by decide +kernel
theorem dX2_join_57 : decode cX2_join 57 = .ok (.getfield 31, 3) := by decide +kernel
theorem dX2_join_60 : decode cX2_join 60 = .ok (.aload_n 1, 1) := by decide +kernel
theorem dX2_join_61 : decode cX2_join 61 = .ok (.getfield 34, 3) := by decide +kernel
theorem dX2_join_64 : decode cX2_join 64 = .ok (.aload_n 0, 1) := by decide +kernel
theorem dX2_join_65 : decode cX2_join 65 = .ok (.aload_n 1, 1) := by decide +kernel
theorem dX2_join_66 : decode cX2_join 66 = .ok (.getfield 40, 3) := by decide +kernel
theorem dX2_join_69 : decode cX2_join 69 = .ok (.iload_n 2, 1) := by decide +kernel
theorem dX2_join_70 : decode cX2_join 70 = .ok (.iload_n 3, 1) := by decide +kernel
theorem dX2_join_71 : decode cX2_join 71 = .ok (.aload 4, 2) := by decide +kernel
theorem dX2_join_73 : decode cX2_join 73 = .ok (.iload 5, 2) := by decide +kernel
theorem dX2_join_75 : decode cX2_join 75 = .ok (.iconst 1, 1) := by decide +kernel
theorem dX2_join_76 : decode cX2_join 76 = .ok (.iadd, 1) := by decide +kernel
theorem dX2_join_77 : decode cX2_join 77 = .ok (.invokevirtual 79, 3) := by decide +kernel
theorem dX2_join_80 : decode cX2_join 80 = .ok (.invokevirtual 83, 3) := by decide +kernel
theorem dX2_join_83 : decode cX2_join 83 = .ok (.areturn, 1) := by decide +kernel
theorem dX2_join_84 : decode cX2_join 84 = .ok (.aload 4, 2) := by decide +kernel
theorem dX2_join_86 : decode cX2_join 86 = .ok (.ifnull 46, 3) := by decide +kernel
theorem dX2_join_89 : decode cX2_join 89 = .ok (.iload 7, 2) := by decide +kernel
theorem dX2_join_91 : decode cX2_join 91 = .ok (.iload 6, 2) := by decide +kernel
theorem dX2_join_93 : decode cX2_join 93 = .ok (.if_icmp .le 39, 3) := by decide +kernel
theorem dX2_join_96 : decode cX2_join 96 = .ok (.aload_n 0, 1) := by decide +kernel
theorem dX2_join_97 : decode cX2_join 97 = .ok (.aload_n 0, 1) := by decide +kernel
theorem dX2_join_98 : decode cX2_join 98 = .ok (.aload_n 1, 1) := by decide +kernel
theorem dX2_join_99 : decode cX2_join 99 = .ok (.iload_n 2, 1) := by decide +kernel
theorem dX2_join_100 : decode cX2_join 100 = .ok (.iload_n 3, 1) := by decide +kernel
theorem dX2_join_101 : decode cX2_join 101 = .ok (.aload 4, 2) := by decide +kernel
theorem dX2_join_103 : decode cX2_join 103 = .ok (.getfield 37, 3) := by decide +kernel
theorem dX2_join_106 : decode cX2_join 106 = .ok (.iload 5, 2) := by decide +kernel
theorem dX2_join_108 : decode cX2_join 108 = .ok (.iconst 1, 1) := by decide +kernel
theorem dX2_join_109 : decode cX2_join 109 = .ok (.iadd, 1) := by decide +kernel
theorem dX2_join_110 : decode cX2_join 110 = .ok (.invokevirtual 79, 3) := by decide +kernel
theorem dX2_join_113 : decode cX2_join 113 = .ok (.aload 4, 2) := by decide +kernel
theorem dX2_join_115 : decode cX2_join 115 = .ok (.getfield 31, 3) := by decide +kernel
theorem dX2_join_118 : decode cX2_join 118 = .ok (.aload 4, 2) := by decide +kernel
theorem dX2_join_120 : decode cX2_join 120 = .ok (.getfield 34, 3) := by decide +kernel
theorem dX2_join_123 : decode cX2_join 123 = .ok (.aload 4, 2) := by decide +kernel
theorem dX2_join_125 : decode cX2_join 125 = .ok (.getfield 40, 3) := by decide +kernel
theorem dX2_join_128 : decode cX2_join 128 = .ok (.invokevirtual 86, 3) := by decide +kernel
theorem dX2_join_131 : decode cX2_join 131 = .ok (.areturn, 1) := by decide +kernel
theorem dX2_join_132 : decode cX2_join 132 = .ok (.aload_n 0, 1) := by decide +kernel
theorem dX2_join_133 : decode cX2_join 133 = .ok (.aload_n 1, 1) := by decide +kernel
theorem dX2_join_134 : decode cX2_join 134 = .ok (.iload_n 2, 1) := by decide +kernel
theorem dX2_join_135 : decode cX2_join 135 = .ok (.iload_n 3, 1) := by decide +kernel
theorem dX2_join_136 : decode cX2_join 136 = .ok (.aload 4, 2) := by decide +kernel
theorem dX2_join_138 : decode cX2_join 138 = .ok (.invokevirtual 75, 3) := by decide +kernel
theorem dX2_join_141 : decode cX2_join 141 = .ok (.areturn, 1) := by decide +kernel
set_option maxRecDepth 20000 in
theorem ggX2_turnedLeft_X3_weightOf : GoodIn wsX2_turnedLeft wsX3_weightOf := goodIn_r _ [8, 9, 10, 7, 11, 12, 40, 41, 42, 43, 44, 45, 46, 47, 48] (by decide +kernel) (by decide +kernel)
set_option maxRecDepth 20000 in
theorem gX2_turnedLeft_X3_weightOf : GoodIn wsX2_turnedLeft (va_wsS RX2 68 yX3_weightOf wsX3_weightOf) := goodIn_app (goodIn_of _ (by decide +kernel)) ggX2_turnedLeft_X3_weightOf
set_option maxRecDepth 20000 in
theorem ggX2_turnedLeft_X2_isBalanced : GoodIn wsX2_turnedLeft wsX2_isBalanced := goodIn_r _ [16] (by decide +kernel) (by decide +kernel)
set_option maxRecDepth 20000 in
theorem gX2_turnedLeft_X2_isBalanced : GoodIn wsX2_turnedLeft (va_wsS RX2 71 yX2_isBalanced wsX2_isBalanced) := goodIn_app (goodIn_of _ (by decide +kernel)) ggX2_turnedLeft_X2_isBalanced
set_option maxRecDepth 20000 in
theorem ggX2_turnedLeft_X2_node : GoodIn wsX2_turnedLeft wsX2_node := goodIn_r _ [20, 21, 22, 23, 7, 24, 25, 26, 27, 3, 4, 1, 2, 28, 29, 30, 31, 32, 33, 34, 35, 10, 11, 12, 36, 37, 38, 39, 49, 50, 51, 52, 40, 41, 42, 43, 44, 45, 46, 47, 48] (by decide +kernel) (by decide +kernel)
set_option maxRecDepth 20000 in
theorem gX2_turnedLeft_X2_node : GoodIn wsX2_turnedLeft (wsV RX2 75 RX2 yX2_node wsX2_node) := goodIn_app (goodIn_of _ (by decide +kernel)) ggX2_turnedLeft_X2_node
theorem dX2_turnedLeft_0 : decode cX2_turnedLeft 0 = .ok (.aload_n 1, 1) := by decide +kernel
theorem dX2_turnedLeft_1 : decode cX2_turnedLeft 1 = .ok (.invokestatic 68, 3) := by decide +kernel
theorem dX2_turnedLeft_4 : decode cX2_turnedLeft 4 = .ok (.istore 5, 2) := by decide +kernel
theorem dX2_turnedLeft_6 : decode cX2_turnedLeft 6 = .ok (.aload 4, 2) := by decide +kernel
theorem dX2_turnedLeft_8 : decode cX2_turnedLeft 8 = .ok (.ifnull 16, 3) := by decide +kernel
theorem dX2_turnedLeft_11 : decode cX2_turnedLeft 11 = .ok (.iload 5, 2) := by decide +kernel
theorem dX2_turnedLeft_13 : decode cX2_turnedLeft 13 = .ok (.aload 4, 2) := by decide +kernel
theorem dX2_turnedLeft_15 : decode cX2_turnedLeft 15 = .ok (.invokestatic 68, 3) := by decide +kernel
theorem dX2_turnedLeft_18 : decode cX2_turnedLeft 18 = .ok (.invokestatic 71, 3) := by decide +kernel
theorem dX2_turnedLeft_21 : decode cX2_turnedLeft 21 = .ok (.ifCond .eq 13, 3) := by decide +kernel
theorem dX2_turnedLeft_24 : decode cX2_turnedLeft 24 = .ok (.aload_n 0, 1) := by decide +kernel
theorem dX2_turnedLeft_25 : decode cX2_turnedLeft 25 = .ok (.aload_n 1, 1) := by decide +kernel
theorem dX2_turnedLeft_26 : decode cX2_turnedLeft 26 = .ok (.iload_n 2, 1) := by decide +kernel
theorem dX2_turnedLeft_27 : decode cX2_turnedLeft 27 = .ok (.iload_n 3, 1) := by decide +kernel
theorem dX2_turnedLeft_28 : decode cX2_turnedLeft 28 = .ok (.aload 4, 2) := by decide +kernel
theorem dX2_turnedLeft_30 : decode cX2_turnedLeft 30 = .ok (.invokevirtual 75, 3) := by decide +kernel
theorem dX2_turnedLeft_33 : decode cX2_turnedLeft 33 = .ok (.areturn, 1) := by decide +kernel
theorem dX2_turnedLeft_34 : decode cX2_turnedLeft 34 = .ok (.aload 4, 2) := by decide +kernel
theorem dX2_turnedLeft_36 : decode cX2_turnedLeft 36 = .ok (.getfield 37, 3) := by decide +kernel
theorem dX2_turnedLeft_39 : decode cX2_turnedLeft 39 = .ok (.astore 6, 2) := by decide +kernel
theorem dX2_turnedLeft_41 : decode cX2_turnedLeft 41 = .ok (.aload 6, 2) := by decide +kernel
theorem dX2_turnedLeft_43 : decode cX2_turnedLeft 43 = .ok (.invokestatic 68, 3) := by decide +kernel
theorem dX2_turnedLeft_46 : decode cX2_turnedLeft 46 = .ok (.istore 7, 2) := by decide +kernel
theorem dX2_turnedLeft_48 : decode cX2_turnedLeft 48 = .ok (.aload 6, 2) := by decide +kernel
theorem dX2_turnedLeft_50 : decode cX2_turnedLeft 50 = .ok (.ifnull 32, 3) := by decide +kernel
theorem dX2_turnedLeft_53 : decode cX2_turnedLeft 53 = .ok (.iload 5, 2) := by decide +kernel
theorem dX2_turnedLeft_55 : decode cX2_turnedLeft 55 = .ok (.iload 7, 2) := by decide +kernel
theorem dX2_turnedLeft_57 : decode cX2_turnedLeft 57 = .ok (.invokestatic 71, 3) := by decide +kernel
theorem dX2_turnedLeft_60 : decode cX2_turnedLeft 60 = .ok (.ifCond .eq 51, 3) := by decide +kernel
theorem dX2_turnedLeft_63 : decode cX2_turnedLeft 63 = .ok (.iload 5, 2) := by decide +kernel
theorem dX2_turnedLeft_65 : decode cX2_turnedLeft 65 = .ok (.iload 7, 2) := by decide +kernel
theorem dX2_turnedLeft_67 : decode cX2_turnedLeft 67 = .ok (.iadd, 1) := by decide +kernel
theorem dX2_turnedLeft_68 : decode cX2_turnedLeft 68 = .ok (.aload 4, 2) := by decide +kernel
theorem dX2_turnedLeft_70 : decode cX2_turnedLeft 70 = .ok (.getfield 40, 3) := by decide +kernel
theorem dX2_turnedLeft_73 : decode cX2_turnedLeft 73 = .ok (.invokestatic 68, 3) := by decide +kernel
theorem dX2_turnedLeft_76 : decode cX2_turnedLeft 76 = .ok (.invokestatic 71, 3) := by decide +kernel
theorem dX2_turnedLeft_79 : decode cX2_turnedLeft 79 = .ok (.ifCond .eq 32, 3) := by decide +kernel
theorem dX2_turnedLeft_82 : decode cX2_turnedLeft 82 = .ok (.aload_n 0, 1) := by decide +kernel
theorem dX2_turnedLeft_83 : decode cX2_turnedLeft 83 = .ok (.aload_n 0, 1) := by decide +kernel
theorem dX2_turnedLeft_84 : decode cX2_turnedLeft 84 = .ok (.aload_n 1, 1) := by decide +kernel
theorem dX2_turnedLeft_85 : decode cX2_turnedLeft 85 = .ok (.iload_n 2, 1) := by decide +kernel
theorem dX2_turnedLeft_86 : decode cX2_turnedLeft 86 = .ok (.iload_n 3, 1) := by decide +kernel
theorem dX2_turnedLeft_87 : decode cX2_turnedLeft 87 = .ok (.aload 6, 2) := by decide +kernel
theorem dX2_turnedLeft_89 : decode cX2_turnedLeft 89 = .ok (.invokevirtual 75, 3) := by decide +kernel
theorem dX2_turnedLeft_92 : decode cX2_turnedLeft 92 = .ok (.aload 4, 2) := by decide +kernel
theorem dX2_turnedLeft_94 : decode cX2_turnedLeft 94 = .ok (.getfield 31, 3) := by decide +kernel
theorem dX2_turnedLeft_97 : decode cX2_turnedLeft 97 = .ok (.aload 4, 2) := by decide +kernel
theorem dX2_turnedLeft_99 : decode cX2_turnedLeft 99 = .ok (.getfield 34, 3) := by decide +kernel
theorem dX2_turnedLeft_102 : decode cX2_turnedLeft 102 = .ok (.aload 4, 2) := by decide +kernel
theorem dX2_turnedLeft_104 : decode cX2_turnedLeft 104 = .ok (.getfield 40, 3) := by decide +kernel
theorem dX2_turnedLeft_107 : decode cX2_turnedLeft 107 = .ok (.invokevirtual 75, 3) := by decide +kernel
theorem dX2_turnedLeft_110 : decode cX2_turnedLeft 110 = .ok (.areturn, 1) := by decide +kernel
theorem dX2_turnedLeft_111 : decode cX2_turnedLeft 111 = .ok (.aload_n 0, 1) := by decide +kernel
theorem dX2_turnedLeft_112 : decode cX2_turnedLeft 112 = .ok (.aload 6, 2) := by decide +kernel
theorem dX2_turnedLeft_114 : decode cX2_turnedLeft 114 = .ok (.getfield 40, 3) := by decide +kernel
theorem dX2_turnedLeft_117 : decode cX2_turnedLeft 117 = .ok (.aload 4, 2) := by decide +kernel
theorem dX2_turnedLeft_119 : decode cX2_turnedLeft 119 = .ok (.getfield 31, 3) := by decide +kernel
theorem dX2_turnedLeft_122 : decode cX2_turnedLeft 122 = .ok (.aload 4, 2) := by decide +kernel
theorem dX2_turnedLeft_124 : decode cX2_turnedLeft 124 = .ok (.getfield 34, 3) := by decide +kernel
theorem dX2_turnedLeft_127 : decode cX2_turnedLeft 127 = .ok (.aload 4, 2) := by decide +kernel
theorem dX2_turnedLeft_129 : decode cX2_turnedLeft 129 = .ok (.getfield 40, 3) := by decide +kernel
theorem dX2_turnedLeft_132 : decode cX2_turnedLeft 132 = .ok (.invokevirtual 75, 3) := by decide +kernel
theorem dX2_turnedLeft_135 : decode cX2_turnedLeft 135 = .ok (.astore 8, 2) := by decide +kernel
theorem dX2_turnedLeft_137 : decode cX2_turnedLeft 137 = .ok (.aload_n 0, 1) := by decide +kernel
theorem dX2_turnedLeft_138 : decode cX2_turnedLeft 138 = .ok (.aload_n 0, 1) := by decide +kernel
theorem dX2_turnedLeft_139 : decode cX2_turnedLeft 139 = .ok (.aload_n 1, 1) := by decide +kernel
theorem dX2_turnedLeft_140 : decode cX2_turnedLeft 140 = .ok (.iload_n 2, 1) := by decide +kernel
theorem dX2_turnedLeft_141 : decode cX2_turnedLeft 141 = .ok (.iload_n 3, 1) := by decide +kernel
theorem dX2_turnedLeft_142 : decode cX2_turnedLeft 142 = .ok (.aload 6, 2) := by decide +kernel
theorem dX2_turnedLeft_144 : decode cX2_turnedLeft 144 = .ok (.getfield 37, 3) := by decide +kernel
theorem dX2_turnedLeft_147 : decode cX2_turnedLeft 147 = .ok (.invokevirtual 75, 3) := by decide +kernel
theorem dX2_turnedLeft_150 : decode cX2_turnedLeft 150 = .ok (.aload 6, 2) := by decide +kernel
theorem dX2_turnedLeft_152 : decode cX2_turnedLeft 152 = .ok (.getfield 31, 3) := by decide +kernel
theorem dX2_turnedLeft_155 : decode cX2_turnedLeft 155 = .ok (.aload 6, 2) := by decide +kernel
theorem dX2_turnedLeft_157 : decode cX2_turnedLeft 157 = .ok (.getfield 34, 3) := by decide +kernel
theorem dX2_turnedLeft_160 : decode cX2_turnedLeft 160 = .ok (.aload 8, 2) := by decide +kernel
theorem dX2_turnedLeft_162 : decode cX2_turnedLeft 162 = .ok (.invokevirtual 75, 3) := by decide +kernel
theorem dX2_turnedLeft_165 : decode cX2_turnedLeft 165 = .ok (.areturn, 1) := by decide +kernel
set_option maxRecDepth 20000 in
theorem ggX2_turnedRight_X3_weightOf : GoodIn wsX2_turnedRight wsX3_weightOf := goodIn_r _ [8, 9, 10, 7, 11, 12, 40, 41, 42, 43, 44, 45, 46, 47, 48] (by decide +kernel) (by decide +kernel)
set_option maxRecDepth 20000 in
theorem gX2_turnedRight_X3_weightOf : GoodIn wsX2_turnedRight (va_wsS RX2 68 yX3_weightOf wsX3_weightOf) := goodIn_app (goodIn_of _ (by decide +kernel)) ggX2_turnedRight_X3_weightOf
set_option maxRecDepth 20000 in
theorem ggX2_turnedRight_X2_isBalanced : GoodIn wsX2_turnedRight wsX2_isBalanced := goodIn_r _ [16] (by decide +kernel) (by decide +kernel)
set_option maxRecDepth 20000 in
theorem gX2_turnedRight_X2_isBalanced : GoodIn wsX2_turnedRight (va_wsS RX2 71 yX2_isBalanced wsX2_isBalanced) := goodIn_app (goodIn_of _ (by decide +kernel)) ggX2_turnedRight_X2_isBalanced
set_option maxRecDepth 20000 in
theorem ggX2_turnedRight_X2_node : GoodIn wsX2_turnedRight wsX2_node := goodIn_r _ [20, 21, 22, 23, 7, 24, 25, 26, 27, 3, 4, 2, 1, 28, 29, 30, 31, 32, 33, 34, 35, 10, 11, 12, 36, 37, 38, 39, 49, 50, 51, 52, 40, 41, 42, 43, 44, 45, 46, 47, 48] (by decide +kernel) (by decide +kernel)
set_option maxRecDepth 20000 in
theorem gX2_turnedRight_X2_node : GoodIn wsX2_turnedRight (wsV RX2 75 RX2 yX2_node wsX2_node) := goodIn_app (goodIn_of _ (by decide +kernel)) ggX2_turnedRight_X2_node
theorem dX2_turnedRight_0 : decode cX2_turnedRight 0 = .ok (.aload 4, 2) := by decide +kernel
theorem dX2_turnedRight_2 : decode cX2_turnedRight 2 = .ok (.invokestatic 68, 3) := by decide +kernel
theorem dX2_turnedRight_5 : decode cX2_turnedRight 5 = .ok (.istore 5, 2) := by decide +kernel
theorem dX2_turnedRight_7 : decode cX2_turnedRight 7 = .ok (.aload_n 1, 1) := by decide +kernel
theorem dX2_turnedRight_8 : decode cX2_turnedRight 8 = .ok (.ifnull 15, 3) := by decide +kernel
theorem dX2_turnedRight_11 : decode cX2_turnedRight 11 = .ok (.iload 5, 2) := by decide +kernel
theorem dX2_turnedRight_13 : decode cX2_turnedRight 13 = .ok (.aload_n 1, 1) := by decide +kernel
theorem dX2_turnedRight_14 : decode cX2_turnedRight 14 = .ok (.invokestatic 68, 3) := by decide +kernel
theorem dX2_turnedRight_17 : decode cX2_turnedRight 17 = .ok (.invokestatic 71, 3) := by decide +kernel
theorem dX2_turnedRight_20 : decode cX2_turnedRight 20 = .ok (.ifCond .eq 13, 3) := by decide +kernel
theorem dX2_turnedRight_23 : decode cX2_turnedRight 23 = .ok (.aload_n 0, 1) := by decide +kernel
theorem dX2_turnedRight_24 : decode cX2_turnedRight 24 = .ok (.aload_n 1, 1) := by decide +kernel
theorem dX2_turnedRight_25 : decode cX2_turnedRight 25 = .ok (.iload_n 2, 1) := by decide +kernel
theorem dX2_turnedRight_26 : decode cX2_turnedRight 26 = .ok (.iload_n 3, 1) := by decide +kernel
theorem dX2_turnedRight_27 : decode cX2_turnedRight 27 = .ok (.aload 4, 2) := by decide +kernel
theorem dX2_turnedRight_29 : decode cX2_turnedRight 29 = .ok (.invokevirtual 75, 3) := by decide +kernel
theorem dX2_turnedRight_32 : decode cX2_turnedRight 32 = .ok (.areturn, 1) := by decide +kernel
theorem dX2_turnedRight_33 : decode cX2_turnedRight 33 = .ok (.aload_n 1, 1) := by decide +kernel
theorem dX2_turnedRight_34 : decode cX2_turnedRight 34 = .ok (.getfield 40, 3) := by decide +kernel
theorem dX2_turnedRight_37 : decode cX2_turnedRight 37 = .ok (.astore 6, 2) := by decide +kernel
theorem dX2_turnedRight_39 : decode cX2_turnedRight 39 = .ok (.aload 6, 2) := by decide +kernel
theorem dX2_turnedRight_41 : decode cX2_turnedRight 41 = .ok (.invokestatic 68, 3) := by decide +kernel
theorem dX2_turnedRight_44 : decode cX2_turnedRight 44 = .ok (.istore 7, 2) := by decide +kernel
theorem dX2_turnedRight_46 : decode cX2_turnedRight 46 = .ok (.aload 6, 2) := by decide +kernel
theorem dX2_turnedRight_48 : decode cX2_turnedRight 48 = .ok (.ifnull 31, 3) := by decide +kernel
theorem dX2_turnedRight_51 : decode cX2_turnedRight 51 = .ok (.iload 5, 2) := by decide +kernel
theorem dX2_turnedRight_53 : decode cX2_turnedRight 53 = .ok (.iload 7, 2) := by decide +kernel
theorem dX2_turnedRight_55 : decode cX2_turnedRight 55 = .ok (.invokestatic 71, 3) := by decide +kernel
theorem dX2_turnedRight_58 : decode cX2_turnedRight 58 = .ok (.ifCond .eq 48, 3) := by decide +kernel
theorem dX2_turnedRight_61 : decode cX2_turnedRight 61 = .ok (.iload 5, 2) := by decide +kernel
theorem dX2_turnedRight_63 : decode cX2_turnedRight 63 = .ok (.iload 7, 2) := by decide +kernel
theorem dX2_turnedRight_65 : decode cX2_turnedRight 65 = .ok (.iadd, 1) := by decide +kernel
theorem dX2_turnedRight_66 : decode cX2_turnedRight 66 = .ok (.aload_n 1, 1) := by decide +kernel
theorem dX2_turnedRight_67 : decode cX2_turnedRight 67 = .ok (.getfield 37, 3) := by decide +kernel
theorem dX2_turnedRight_70 : decode cX2_turnedRight 70 = .ok (.invokestatic 68, 3) := by decide +kernel
theorem dX2_turnedRight_73 : decode cX2_turnedRight 73 = .ok (.invokestatic 71, 3) := by decide +kernel
theorem dX2_turnedRight_76 : decode cX2_turnedRight 76 = .ok (.ifCond .eq 30, 3) := by decide +kernel
theorem dX2_turnedRight_79 : decode cX2_turnedRight 79 = .ok (.aload_n 0, 1) := by decide +kernel
theorem dX2_turnedRight_80 : decode cX2_turnedRight 80 = .ok (.aload_n 1, 1) := by decide +kernel
theorem dX2_turnedRight_81 : decode cX2_turnedRight 81 = .ok (.getfield 37, 3) := by decide +kernel
theorem dX2_turnedRight_84 : decode cX2_turnedRight 84 = .ok (.aload_n 1, 1) := by decide +kernel
theorem dX2_turnedRight_85 : decode cX2_turnedRight 85 = .ok (.getfield 31, 3) := by decide +kernel
theorem dX2_turnedRight_88 : decode cX2_turnedRight 88 = .ok (.aload_n 1, 1) := by decide +kernel
theorem dX2_turnedRight_89 : decode cX2_turnedRight 89 = .ok (.getfield 34, 3) := by decide +kernel
theorem dX2_turnedRight_92 : decode cX2_turnedRight 92 = .ok (.aload_n 0, 1) := by decide +kernel
theorem dX2_turnedRight_93 : decode cX2_turnedRight 93 = .ok (.aload 6, 2) := by decide +kernel
theorem dX2_turnedRight_95 : decode cX2_turnedRight 95 = .ok (.iload_n 2, 1) := by decide +kernel
theorem dX2_turnedRight_96 : decode cX2_turnedRight 96 = .ok (.iload_n 3, 1) := by decide +kernel
theorem dX2_turnedRight_97 : decode cX2_turnedRight 97 = .ok (.aload 4, 2) := by decide +kernel
theorem dX2_turnedRight_99 : decode cX2_turnedRight 99 = .ok (.invokevirtual 75, 3) := by decide +kernel
theorem dX2_turnedRight_102 : decode cX2_turnedRight 102 = .ok (.invokevirtual 75, 3) := by decide +kernel
theorem dX2_turnedRight_105 : decode cX2_turnedRight 105 = .ok (.areturn, 1) := by decide +kernel
theorem dX2_turnedRight_106 : decode cX2_turnedRight 106 = .ok (.aload_n 0, 1) := by decide +kernel
theorem dX2_turnedRight_107 : decode cX2_turnedRight 107 = .ok (.aload_n 1, 1) := by decide +kernel
theorem dX2_turnedRight_108 : decode cX2_turnedRight 108 = .ok (.getfield 37, 3) := by decide +kernel
theorem dX2_turnedRight_111 : decode cX2_turnedRight 111 = .ok (.aload_n 1, 1) := by decide +kernel
theorem dX2_turnedRight_112 : decode cX2_turnedRight 112 = .ok (.getfield 31, 3) := by decide +kernel
theorem dX2_turnedRight_115 : decode cX2_turnedRight 115 = .ok (.aload_n 1, 1) := by decide +kernel
theorem dX2_turnedRight_116 : decode cX2_turnedRight 116 = .ok (.getfield 34, 3) := by decide +kernel
theorem dX2_turnedRight_119 : decode cX2_turnedRight 119 = .ok (.aload 6, 2) := by decide +kernel
theorem dX2_turnedRight_121 : decode cX2_turnedRight 121 = .ok (.getfield 37, 3) := by decide +kernel
theorem dX2_turnedRight_124 : decode cX2_turnedRight 124 = .ok (.invokevirtual 75, 3) := by decide +kernel
theorem dX2_turnedRight_127 : decode cX2_turnedRight 127 = .ok (.astore 8, 2) := by decide +kernel
theorem dX2_turnedRight_129 : decode cX2_turnedRight 129 = .ok (.aload_n 0, 1) := by decide +kernel
theorem dX2_turnedRight_130 : decode cX2_turnedRight 130 = .ok (.aload 8, 2) := by decide +kernel
theorem dX2_turnedRight_132 : decode cX2_turnedRight 132 = .ok (.aload 6, 2) := by decide +kernel
theorem dX2_turnedRight_134 : decode cX2_turnedRight 134 = .ok (.getfield 31, 3) := by decide +kernel
theorem dX2_turnedRight_137 : decode cX2_turnedRight 137 = .ok (.aload 6, 2) := by decide +kernel
theorem dX2_turnedRight_139 : decode cX2_turnedRight 139 = .ok (.getfield 34, 3) := by decide +kernel
theorem dX2_turnedRight_142 : decode cX2_turnedRight 142 = .ok (.aload_n 0, 1) := by decide +kernel
theorem dX2_turnedRight_143 : decode cX2_turnedRight 143 = .ok (.aload 6, 2) := by decide +kernel
theorem dX2_turnedRight_145 : decode cX2_turnedRight 145 = .ok (.getfield 40, 3) := by decide +kernel
theorem dX2_turnedRight_148 : decode cX2_turnedRight 148 = .ok (.iload_n 2, 1) := by decide +kernel
theorem dX2_turnedRight_149 : decode cX2_turnedRight 149 = .ok (.iload_n 3, 1) := by decide +kernel
theorem dX2_turnedRight_150 : decode cX2_turnedRight 150 = .ok (.aload 4, 2) := by decide +kernel
theorem dX2_turnedRight_152 : decode cX2_turnedRight 152 = .ok (.invokevirtual 75, 3) := by decide +kernel
theorem dX2_turnedRight_155 : decode cX2_turnedRight 155 = .ok (.invokevirtual 75, 3) := by decide +kernel
theorem dX2_turnedRight_158 : decode cX2_turnedRight 158 = .ok (.areturn, 1) := by decide +kernel
set_option maxRecDepth 20000 in
theorem ggX2_below_X2_below : GoodIn wsX2_below wsX2_below := goodIn_r _ [0, 1, 2, 3, 4, 5, 6, 7, 8, 9, 10, 11, 12, 13, 14, 15, 16, 17, 18, 19, 20, 21, 22, 23, 24, 25, 26, 27, 28, 29, 30, 31, 32, 33, 34, 35, 36, 37, 38, 39, 40, 41, 42, 43, 44, 45, 46, 47, 48, 49, 50, 51, 52, 53, 54, 55, 56, 57, 58, 59, 60, 61, 62, 63, 64, 65, 66, 67] (by decide +kernel) (by decide +kernel)
set_option maxRecDepth 20000 in
theorem gX2_below_X2_below : GoodIn wsX2_below (wsV RX2 89 RX2 yX2_below wsX2_below) := goodIn_app (goodIn_of _ (by decide +kernel)) ggX2_below_X2_below
set_option maxRecDepth 20000 in
theorem ggX2_below_X2_join : GoodIn wsX2_below wsX2_join := goodIn_r _ [12, 2, 1, 4, 3, 13, 14, 15, 16, 17, 18, 19, 20, 21, 22, 8, 23, 24, 25, 26, 27, 28, 29, 30, 31, 32, 33, 34, 35, 36, 37, 38, 39, 40, 41, 42, 43, 44, 45, 46, 9, 10, 11, 47, 48, 49, 50, 51, 52, 53, 54, 55, 56, 57, 58, 59, 60, 61, 62, 63, 64, 65, 66, 67] (by decide +kernel) (by decide +kernel)
set_option maxRecDepth 20000 in
theorem gX2_below_X2_join : GoodIn wsX2_below (wsV RX2 79 RX2 yX2_join wsX2_join) := goodIn_app (goodIn_of _ (by decide +kernel)) ggX2_below_X2_join
theorem dX2_below_0 : decode cX2_below 0 = .ok (.aload_n 1, 1) := by decide +kernel
theorem dX2_below_1 : decode cX2_below 1 = .ok (.ifnull 9, 3) := by decide +kernel
theorem dX2_below_4 : decode cX2_below 4 = .ok (.iload_n 3, 1) := by decide +kernel
theorem dX2_below_5 : decode cX2_below 5 = .ok (.bipush 40, 2) := by decide +kernel
theorem dX2_below_7 : decode cX2_below 7 = .ok (.if_icmp .le 5, 3) := by decide +kernel
theorem dX2_below_10 : decode cX2_below 10 = .ok (.aconst_null, 1) := by decide +kernel
theorem dX2_below_11 : decode cX2_below 11 = .ok (.areturn, 1) := by decide +kernel
theorem dX2_below_12 : decode cX2_below 12 = .ok (.aload_n 1, 1) := by decide +kernel
theorem dX2_below_13 : decode cX2_below 13 = .ok (.getfield 31, 3) := by decide +kernel
theorem dX2_below_16 : decode cX2_below 16 = .ok (.iload_n 2, 1) := by decide +kernel
theorem dX2_below_17 : decode cX2_below 17 = .ok (.if_icmp .lt 16, 3) := by decide +kernel
theorem dX2_below_20 : decode cX2_below 20 = .ok (.aload_n 0, 1) := by decide +kernel
theorem dX2_below_21 : decode cX2_below 21 = .ok (.aload_n 1, 1) := by decide +kernel
theorem dX2_below_22 : decode cX2_below 22 = .ok (.getfield 37, 3) := by decide +kernel
theorem dX2_below_25 : decode cX2_below 25 = .ok (.iload_n 2, 1) := by decide +kernel
theorem dX2_below_26 : decode cX2_below 26 = .ok (.iload_n 3, 1) := by decide +kernel
theorem dX2_below_27 : decode cX2_below 27 = .ok (.iconst 1, 1) := by decide +kernel
theorem dX2_below_28 : decode cX2_below 28 = .ok (.iadd, 1) := by decide +kernel
theorem dX2_below_29 : decode cX2_below 29 = .ok (.invokevirtual 89, 3) := by decide +kernel
theorem dX2_below_32 : decode cX2_below 32 = .ok (.areturn, 1) := by decide +kernel
theorem dX2_below_33 : decode cX2_below 33 = .ok (.aload_n 0, 1) := by decide +kernel
theorem dX2_below_34 : decode cX2_below 34 = .ok (.aload_n 1, 1) := by decide +kernel
theorem dX2_below_35 : decode cX2_below 35 = .ok (.getfield 40, 3) := by decide +kernel
theorem dX2_below_38 : decode cX2_below 38 = .ok (.iload_n 2, 1) := by decide +kernel
theorem dX2_below_39 : decode cX2_below 39 = .ok (.iload_n 3, 1) := by decide +kernel
theorem dX2_below_40 : decode cX2_below 40 = .ok (.iconst 1, 1) := by decide +kernel
theorem dX2_below_41 : decode cX2_below 41 = .ok (.iadd, 1) := by decide +kernel
theorem dX2_below_42 : decode cX2_below 42 = .ok (.invokevirtual 89, 3) := by decide +kernel
theorem dX2_below_45 : decode cX2_below 45 = .ok (.astore 4, 2) := by decide +kernel
theorem dX2_below_47 : decode cX2_below 47 = .ok (.aload 4, 2) := by decide +kernel
theorem dX2_below_49 : decode cX2_below 49 = .ok (.aload_n 1, 1) := by decide +kernel
theorem dX2_below_50 : decode cX2_below 50 = .ok (.getfield 40, 3) := by decide +kernel
theorem dX2_below_53 : decode cX2_below 53 = .ok (.if_acmp .ne 7, 3) := by decide +kernel
theorem dX2_below_56 : decode cX2_below 56 = .ok (.aload_n 1, 1) := by decide +kernel
theorem dX2_below_57 : decode cX2_below 57 = .ok (.goto 22, 3) := by decide +kernel
theorem dX2_below_60 : decode cX2_below 60 = .ok (.aload_n 0, 1) := by decide +kernel
theorem dX2_below_61 : decode cX2_below 61 = .ok (.aload_n 1, 1) := by decide +kernel
theorem dX2_below_62 : decode cX2_below 62 = .ok (.getfield 37, 3) := by decide +kernel
theorem dX2_below_65 : decode cX2_below 65 = .ok (.aload_n 1, 1) := by decide +kernel
theorem dX2_below_66 : decode cX2_below 66 = .ok (.getfield 31, 3) := by decide +kernel
theorem dX2_below_69 : decode cX2_below 69 = .ok (.aload_n 1, 1) := by decide +kernel
theorem dX2_below_70 : decode cX2_below 70 = .ok (.getfield 34, 3) := by decide +kernel
theorem dX2_below_73 : decode cX2_below 73 = .ok (.aload 4, 2) := by decide +kernel
theorem dX2_below_75 : decode cX2_below 75 = .ok (.iconst 0, 1) := by decide +kernel
theorem dX2_below_76 : decode cX2_below 76 = .ok (.invokevirtual 79, 3) := by decide +kernel
theorem dX2_below_79 : decode cX2_below 79 = .ok (.areturn, 1) := by decide +kernel
set_option maxRecDepth 20000 in
theorem ggX2_above_X2_above : GoodIn wsX2_above wsX2_above := goodIn_r _ [0, 1, 2, 3, 4, 5, 6, 7, 8, 9, 10, 11, 12, 13, 14, 15, 16, 17, 18, 19, 20, 21, 22, 23, 24, 25, 26, 27, 28, 29, 30, 31, 32, 33, 34, 35, 36, 37, 38, 39, 40, 41, 42, 43, 44, 45, 46, 47, 48, 49, 50, 51, 52, 53, 54, 55, 56, 57, 58, 59, 60, 61, 62, 63, 64, 65, 66, 67] (by decide +kernel) (by decide +kernel)
set_option maxRecDepth 20000 in
theorem gX2_above_X2_above : GoodIn wsX2_above (wsV RX2 93 RX2 yX2_above wsX2_above) := goodIn_app (goodIn_of _ (by decide +kernel)) ggX2_above_X2_above
set_option maxRecDepth 20000 in
theorem ggX2_above_X2_join : GoodIn wsX2_above wsX2_join := goodIn_r _ [12, 3, 1, 4, 2, 13, 14, 15, 16, 17, 18, 19, 20, 21, 22, 8, 23, 24, 25, 26, 27, 28, 29, 30, 31, 32, 33, 34, 35, 36, 37, 38, 39, 40, 41, 42, 43, 44, 45, 46, 9, 10, 11, 47, 48, 49, 50, 51, 52, 53, 54, 55, 56, 57, 58, 59, 60, 61, 62, 63, 64, 65, 66, 67] (by decide +kernel) (by decide +kernel)
set_option maxRecDepth 20000 in
theorem gX2_above_X2_join : GoodIn wsX2_above (wsV RX2 79 RX2 yX2_join wsX2_join) := goodIn_app (goodIn_of _ (by decide +kernel)) ggX2_above_X2_join
theorem dX2_above_0 : decode cX2_above 0 = .ok (.aload_n 1, 1) := by decide +kernel
theorem dX2_above_1 : decode cX2_above 1 = .ok (.ifnull 9, 3) := by decide +kernel
theorem dX2_above_4 : decode cX2_above 4 = .ok (.iload_n 3, 1) := by decide +kernel
theorem dX2_above_5 : decode cX2_above 5 = .ok (.bipush 40, 2) := by decide +kernel
theorem dX2_above_7 : decode cX2_above 7 = .ok (.if_icmp .le 5, 3) := by decide +kernel
theorem dX2_above_10 : decode cX2_above 10 = .ok (.aconst_null, 1) := by decide +kernel
theorem dX2_above_11 : decode cX2_above 11 = .ok (.areturn, 1) := by decide +kernel
theorem dX2_above_12 : decode cX2_above 12 = .ok (.aload_n 1, 1) := by decide +kernel
theorem dX2_above_13 : decode cX2_above 13 = .ok (.getfield 31, 3) := by decide +kernel
theorem dX2_above_16 : decode cX2_above 16 = .ok (.iload_n 2, 1) := by decide +kernel
theorem dX2_above_17 : decode cX2_above 17 = .ok (.if_icmp .gt 16, 3) := by decide +kernel
theorem dX2_above_20 : decode cX2_above 20 = .ok (.aload_n 0, 1) := by decide +kernel
theorem dX2_above_21 : decode cX2_above 21 = .ok (.aload_n 1, 1) := by decide +kernel
theorem dX2_above_22 : decode cX2_above 22 = .ok (.getfield 40, 3) := by decide +kernel
theorem dX2_above_25 : decode cX2_above 25 = .ok (.iload_n 2, 1) := by decide +kernel
theorem dX2_above_26 : decode cX2_above 26 = .ok (.iload_n 3, 1) := by decide +kernel
theorem dX2_above_27 : decode cX2_above 27 = .ok (.iconst 1, 1) := by decide +kernel
theorem dX2_above_28 : decode cX2_above 28 = .ok (.iadd, 1) := by decide +kernel
theorem dX2_above_29 : decode cX2_above 29 = .ok (.invokevirtual 93, 3) := by decide +kernel
theorem dX2_above_32 : decode cX2_above 32 = .ok (.areturn, 1) := by decide +kernel
theorem dX2_above_33 : decode cX2_above 33 = .ok (.aload_n 0, 1) := by decide +kernel
theorem dX2_above_34 : decode cX2_above 34 = .ok (.aload_n 1, 1) := by decide +kernel
theorem dX2_above_35 : decode cX2_above 35 = .ok (.getfield 37, 3) := by decide +kernel
theorem dX2_above_38 : decode cX2_above 38 = .ok (.iload_n 2, 1) := by decide +kernel
theorem dX2_above_39 : decode cX2_above 39 = .ok (.iload_n 3, 1) := by decide +kernel
theorem dX2_above_40 : decode cX2_above 40 = .ok (.iconst 1, 1) := by decide +kernel
theorem dX2_above_41 : decode cX2_above 41 = .ok (.iadd, 1) := by decide +kernel
theorem dX2_above_42 : decode cX2_above 42 = .ok (.invokevirtual 93, 3) := by decide +kernel
theorem dX2_above_45 : decode cX2_above 45 = .ok (.astore 4, 2) := by decide +kernel
theorem dX2_above_47 : decode cX2_above 47 = .ok (.aload 4, 2) := by decide +kernel
theorem dX2_above_49 : decode cX2_above 49 = .ok (.aload_n 1, 1) := by decide +kernel
theorem dX2_above_50 : decode cX2_above 50 = .ok (.getfield 37, 3) := by decide +kernel
theorem dX2_above_53 : decode cX2_above 53 = .ok (.if_acmp .ne 7, 3) := by decide +kernel
theorem dX2_above_56 : decode cX2_above 56 = .ok (.aload_n 1, 1) := by decide +kernel
theorem dX2_above_57 : decode cX2_above 57 = .ok (.goto 22, 3) := by decide +kernel
theorem dX2_above_60 : decode cX2_above 60 = .ok (.aload_n 0, 1) := by decide +kernel
theorem dX2_above_61 : decode cX2_above 61 = .ok (.aload 4, 2) := by decide +kernel
theorem dX2_above_63 : decode cX2_above 63 = .ok (.aload_n 1, 1) := by decide +kernel
theorem dX2_above_64 : decode cX2_above 64 = .ok (.getfield 31, 3) := by decide +kernel
theorem dX2_above_67 : decode cX2_above 67 = .ok (.aload_n 1, 1) := by decide +kernel
theorem dX2_above_68 : decode cX2_above 68 = .ok (.getfield 34, 3) := by decide +kernel
theorem dX2_above_71 : decode cX2_above 71 = .ok (.aload_n 1, 1) := by decide +kernel
theorem dX2_above_72 : decode cX2_above 72 = .ok (.getfield 40, 3) := by decide +kernel
theorem dX2_above_75 : decode cX2_above 75 = .ok (.iconst 0, 1) := by decide +kernel
theorem dX2_above_76 : decode cX2_above 76 = .ok (.invokevirtual 79, 3) := by decide +kernel
theorem dX2_above_79 : decode cX2_above 79 = .ok (.areturn, 1) := by decide +kernel
set_option maxRecDepth 20000 in
theorem ggX2_chain_X2_above : GoodIn wsX2_chain wsX2_above := goodIn_r _ [8, 2, 9, 1, 3, 4, 5, 6, 7, 10, 11, 12, 13, 14, 15, 16, 17, 18, 19, 20, 21, 22, 23, 24, 25, 26, 27, 28, 29, 30, 31, 32, 33, 34, 35, 36, 37, 38, 39, 40, 41, 42, 43, 44, 45, 46, 47, 48, 49, 50, 51, 52, 53, 54, 55, 56, 57, 58, 59, 60, 61, 62, 63, 64, 65, 66, 67, 68] (by decide +kernel) (by decide +kernel)
set_option maxRecDepth 20000 in
theorem gX2_chain_X2_above : GoodIn wsX2_chain (wsV RX2 93 RX2 yX2_above wsX2_above) := goodIn_app (goodIn_of _ (by decide +kernel)) ggX2_chain_X2_above
set_option maxRecDepth 20000 in
theorem ggX2_chain_X2_join : GoodIn wsX2_chain wsX2_join := goodIn_r _ [13, 1, 2, 3, 9, 14, 15, 16, 17, 18, 19, 20, 21, 22, 23, 7, 24, 25, 26, 27, 28, 29, 30, 31, 32, 33, 34, 35, 36, 37, 38, 39, 40, 41, 42, 43, 44, 45, 46, 47, 10, 11, 12, 48, 49, 50, 51, 52, 53, 54, 55, 56, 57, 58, 59, 60, 61, 62, 63, 64, 65, 66, 67, 68] (by decide +kernel) (by decide +kernel)
set_option maxRecDepth 20000 in
theorem gX2_chain_X2_join : GoodIn wsX2_chain (wsV RX2 79 RX2 yX2_join wsX2_join) := goodIn_app (goodIn_of _ (by decide +kernel)) ggX2_chain_X2_join
theorem dX2_chain_0 : decode cX2_chain 0 = .ok (.aload_n 1, 1) := by decide +kernel
theorem dX2_chain_1 : decode cX2_chain 1 = .ok (.ifnull 7, 3) := by decide +kernel
theorem dX2_chain_4 : decode cX2_chain 4 = .ok (.aload_n 2, 1) := by decide +kernel
theorem dX2_chain_5 : decode cX2_chain 5 = .ok (.ifnonnull 13, 3) := by decide +kernel
theorem dX2_chain_8 : decode cX2_chain 8 = .ok (.aload_n 1, 1) := by decide +kernel
theorem dX2_chain_9 : decode cX2_chain 9 = .ok (.ifnonnull 7, 3) := by decide +kernel
theorem dX2_chain_12 : decode cX2_chain 12 = .ok (.aload_n 2, 1) := by decide +kernel
theorem dX2_chain_13 : decode cX2_chain 13 = .ok (.goto 4, 3) := by decide +kernel
theorem dX2_chain_16 : decode cX2_chain 16 = .ok (.aload_n 1, 1) := by decide +kernel
theorem dX2_chain_17 : decode cX2_chain 17 = .ok (.areturn, 1) := by decide +kernel
theorem dX2_chain_18 : decode cX2_chain 18 = .ok (.aload_n 2, 1) := by decide +kernel
theorem dX2_chain_19 : decode cX2_chain 19 = .ok (.astore_n 3, 1) := by decide +kernel
theorem dX2_chain_20 : decode cX2_chain 20 = .ok (.aload_n 3, 1) := by decide +kernel
theorem dX2_chain_21 : decode cX2_chain 21 = .ok (.getfield 37, 3) := by decide +kernel
theorem dX2_chain_24 : decode cX2_chain 24 = .ok (.ifnull 11, 3) := by decide +kernel
theorem dX2_chain_27 : decode cX2_chain 27 = .ok (.aload_n 3, 1) := by decide +kernel
theorem dX2_chain_28 : decode cX2_chain 28 = .ok (.getfield 37, 3) := by decide +kernel
theorem dX2_chain_31 : decode cX2_chain 31 = .ok (.astore_n 3, 1) := by decide +kernel
theorem dX2_chain_32 : decode cX2_chain 32 = .ok (.goto (-12), 3) := by decide +kernel
theorem dX2_chain_35 : decode cX2_chain 35 = .ok (.aload_n 0, 1) := by decide +kernel
theorem dX2_chain_36 : decode cX2_chain 36 = .ok (.aload_n 1, 1) := by decide +kernel
theorem dX2_chain_37 : decode cX2_chain 37 = .ok (.aload_n 3, 1) := by decide +kernel
theorem dX2_chain_38 : decode cX2_chain 38 = .ok (.getfield 31, 3) := by decide +kernel
theorem dX2_chain_41 : decode cX2_chain 41 = .ok (.aload_n 3, 1) := by decide +kernel
theorem dX2_chain_42 : decode cX2_chain 42 = .ok (.getfield 34, 3) := by decide +kernel
theorem dX2_chain_45 : decode cX2_chain 45 = .ok (.aload_n 0, 1) := by decide +kernel
theorem dX2_chain_46 : decode cX2_chain 46 = .ok (.aload_n 2, 1) := by decide +kernel
theorem dX2_chain_47 : decode cX2_chain 47 = .ok (.aload_n 3, 1) := by decide +kernel
theorem dX2_chain_48 : decode cX2_chain 48 = .ok (.getfield 31, 3) := by decide +kernel
theorem dX2_chain_51 : decode cX2_chain 51 = .ok (.iconst 0, 1) := by decide +kernel
theorem dX2_chain_52 : decode cX2_chain 52 = .ok (.invokevirtual 93, 3) := by decide +kernel
theorem dX2_chain_55 : decode cX2_chain 55 = .ok (.iconst 0, 1) := by decide +kernel
theorem dX2_chain_56 : decode cX2_chain 56 = .ok (.invokevirtual 79, 3) := by decide +kernel
theorem dX2_chain_59 : decode cX2_chain 59 = .ok (.areturn, 1) := by decide +kernel
set_option maxRecDepth 20000 in
theorem ggX2_with_X2_below : GoodIn wsX2_with wsX2_below := goodIn_r _ [5, 6, 7, 8, 9, 1, 2, 3, 4, 10, 11, 12, 13, 14, 15, 16, 17, 18, 19, 20, 21, 22, 23, 24, 25, 26, 27, 28, 29, 30, 31, 32, 33, 34, 35, 36, 37, 38, 39, 40, 41, 42, 43, 44, 45, 46, 47, 48, 49, 50, 51, 52, 53, 54, 55, 60, 61, 62, 63, 64, 65, 66, 67, 68, 69, 70, 71, 72] (by decide +kernel) (by decide +kernel)
set_option maxRecDepth 20000 in
theorem gX2_with_X2_below : GoodIn wsX2_with (wsV RX2 89 RX2 yX2_below wsX2_below) := goodIn_app (goodIn_of _ (by decide +kernel)) ggX2_with_X2_below
set_option maxRecDepth 20000 in
theorem ggX2_with_X2_above : GoodIn wsX2_with wsX2_above := goodIn_r _ [59, 6, 8, 7, 9, 56, 57, 58, 4, 10, 11, 12, 13, 14, 15, 16, 17, 18, 19, 20, 21, 22, 23, 24, 25, 26, 27, 28, 29, 30, 31, 32, 33, 34, 35, 36, 37, 38, 39, 40, 41, 42, 43, 44, 45, 46, 47, 48, 49, 50, 51, 52, 53, 54, 55, 60, 61, 62, 63, 64, 65, 66, 67, 68, 69, 70, 71, 72] (by decide +kernel) (by decide +kernel)
set_option maxRecDepth 20000 in
theorem gX2_with_X2_above : GoodIn wsX2_with (wsV RX2 93 RX2 yX2_above wsX2_above) := goodIn_app (goodIn_of _ (by decide +kernel)) ggX2_with_X2_above
set_option maxRecDepth 20000 in
theorem ggX2_with_X2_join : GoodIn wsX2_with wsX2_join := goodIn_r _ [13, 7, 6, 9, 8, 14, 15, 16, 17, 18, 19, 20, 21, 22, 23, 4, 24, 25, 26, 27, 28, 29, 30, 31, 32, 33, 34, 35, 36, 37, 38, 39, 40, 41, 42, 43, 44, 45, 46, 47, 10, 11, 12, 48, 49, 50, 51, 52, 53, 54, 55, 60, 61, 62, 63, 64, 65, 66, 67, 68, 69, 70, 71, 72] (by decide +kernel) (by decide +kernel)
set_option maxRecDepth 20000 in
theorem gX2_with_X2_join : GoodIn wsX2_with (wsV RX2 79 RX2 yX2_join wsX2_join) := goodIn_app (goodIn_of _ (by decide +kernel)) ggX2_with_X2_join
theorem dX2_with_0 : decode cX2_with 0 = .ok (.aload_n 0, 1) := by decide +kernel
theorem dX2_with_1 : decode cX2_with 1 = .ok (.aload_n 0, 1) := by decide +kernel
theorem dX2_with_2 : decode cX2_with 2 = .ok (.aload_n 1, 1) := by decide +kernel
theorem dX2_with_3 : decode cX2_with 3 = .ok (.iload_n 2, 1) := by decide +kernel
theorem dX2_with_4 : decode cX2_with 4 = .ok (.iconst 0, 1) := by decide +kernel
theorem dX2_with_5 : decode cX2_with 5 = .ok (.invokevirtual 89, 3) := by decide +kernel
theorem dX2_with_8 : decode cX2_with 8 = .ok (.iload_n 2, 1) := by decide +kernel
theorem dX2_with_9 : decode cX2_with 9 = .ok (.iload_n 3, 1) := by decide +kernel
theorem dX2_with_10 : decode cX2_with 10 = .ok (.aload_n 0, 1) := by decide +kernel
theorem dX2_with_11 : decode cX2_with 11 = .ok (.aload_n 1, 1) := by decide +kernel
theorem dX2_with_12 : decode cX2_with 12 = .ok (.iload_n 2, 1) := by decide +kernel
theorem dX2_with_13 : decode cX2_with 13 = .ok (.iconst 0, 1) := by decide +kernel
theorem dX2_with_14 : decode cX2_with 14 = .ok (.invokevirtual 93, 3) := by decide +kernel
theorem dX2_with_17 : decode cX2_with 17 = .ok (.iconst 0, 1) := by decide +kernel
theorem dX2_with_18 : decode cX2_with 18 = .ok (.invokevirtual 79, 3) := by decide +kernel
theorem dX2_with_21 : decode cX2_with 21 = .ok (.areturn, 1) := by decide +kernel
set_option maxRecDepth 20000 in
theorem ggX2_without_X2_below : GoodIn wsX2_without wsX2_below := goodIn_r _ [5, 6, 7, 8, 9, 1, 2, 3, 4, 10, 11, 12, 13, 14, 15, 16, 17, 18, 19, 20, 21, 22, 23, 24, 25, 26, 27, 28, 29, 30, 31, 32, 33, 34, 35, 36, 37, 38, 39, 40, 41, 42, 43, 44, 45, 46, 47, 48, 49, 50, 51, 52, 53, 54, 55, 64, 65, 66, 67, 68, 69, 70, 71, 72, 73, 74, 75, 76] (by decide +kernel) (by decide +kernel)
set_option maxRecDepth 20000 in
theorem gX2_without_X2_below : GoodIn wsX2_without (wsV RX2 89 RX2 yX2_below wsX2_below) := goodIn_app (goodIn_of _ (by decide +kernel)) ggX2_without_X2_below
set_option maxRecDepth 20000 in
theorem ggX2_without_X2_above : GoodIn wsX2_without wsX2_above := goodIn_r _ [59, 6, 8, 7, 9, 56, 57, 58, 4, 10, 11, 12, 13, 14, 15, 16, 17, 18, 19, 20, 21, 22, 23, 24, 25, 26, 27, 28, 29, 30, 31, 32, 33, 34, 35, 36, 37, 38, 39, 40, 41, 42, 43, 44, 45, 46, 47, 48, 49, 50, 51, 52, 53, 54, 55, 64, 65, 66, 67, 68, 69, 70, 71, 72, 73, 74, 75, 76] (by decide +kernel) (by decide +kernel)
set_option maxRecDepth 20000 in
theorem gX2_without_X2_above : GoodIn wsX2_without (wsV RX2 93 RX2 yX2_above wsX2_above) := goodIn_app (goodIn_of _ (by decide +kernel)) ggX2_without_X2_above
set_option maxRecDepth 20000 in
theorem ggX2_without_X2_chain : GoodIn wsX2_without wsX2_chain := goodIn_r _ [63, 7, 6, 9, 56, 57, 58, 4, 59, 8, 10, 11, 12, 13, 14, 15, 16, 17, 18, 19, 20, 21, 22, 23, 24, 25, 26, 27, 28, 29, 30, 31, 32, 33, 34, 35, 36, 37, 38, 39, 40, 41, 42, 43, 44, 45, 46, 47, 48, 49, 50, 51, 52, 53, 54, 55, 64, 65, 66, 67, 68, 69, 70, 71, 72, 73, 74, 75, 76] (by decide +kernel) (by decide +kernel)
set_option maxRecDepth 20000 in
theorem gX2_without_X2_chain : GoodIn wsX2_without (wsV RX2 96 RX2 yX2_chain wsX2_chain) := goodIn_app (goodIn_of _ (by decide +kernel)) ggX2_without_X2_chain
theorem dX2_without_0 : decode cX2_without 0 = .ok (.aload_n 0, 1) := by decide +kernel
theorem dX2_without_1 : decode cX2_without 1 = .ok (.aload_n 0, 1) := by decide +kernel
theorem dX2_without_2 : decode cX2_without 2 = .ok (.aload_n 1, 1) := by decide +kernel
theorem dX2_without_3 : decode cX2_without 3 = .ok (.iload_n 2, 1) := by decide +kernel
theorem dX2_without_4 : decode cX2_without 4 = .ok (.iconst 0, 1) := by decide +kernel
theorem dX2_without_5 : decode cX2_without 5 = .ok (.invokevirtual 89, 3) := by decide +kernel
theorem dX2_without_8 : decode cX2_without 8 = .ok (.aload_n 0, 1) := by decide +kernel
theorem dX2_without_9 : decode cX2_without 9 = .ok (.aload_n 1, 1) := by decide +kernel
theorem dX2_without_10 : decode cX2_without 10 = .ok (.iload_n 3, 1) := by decide +kernel
theorem dX2_without_11 : decode cX2_without 11 = .ok (.iconst 0, 1) := by decide +kernel
theorem dX2_without_12 : decode cX2_without 12 = .ok (.invokevirtual 93, 3) := by decide +kernel
theorem dX2_without_15 : decode cX2_without 15 = .ok (.invokevirtual 96, 3) := by decide +kernel
theorem dX2_without_18 : decode cX2_without 18 = .ok (.areturn, 1) := by decide +kernel
set_option maxRecDepth 20000 in
theorem ggX2_built_X2_built : GoodIn wsX2_built wsX2_built := goodIn_r _ [0, 1, 2, 3, 4, 5, 6, 7, 8, 9, 10, 11, 12, 13, 14, 15, 16, 17, 18, 19, 20, 21, 22, 23, 24, 25, 26, 27, 28, 29, 30, 31, 32, 33, 34, 35, 36, 37, 38, 39, 40, 41, 42, 43, 44, 45, 46, 47, 48, 49, 50, 51, 52, 53, 54, 55, 56, 57, 58, 59, 60, 61, 62, 63, 64, 65, 66, 67, 68, 69, 70, 71, 72, 73, 74, 75, 76, 77, 78, 79, 80, 81, 82, 83, 84, 85, 86] (by decide +kernel) (by decide +kernel)
set_option maxRecDepth 20000 in
theorem gX2_built_X2_built : GoodIn wsX2_built (wsV RX2 100 RX2 yX2_built wsX2_built) := goodIn_app (goodIn_of _ (by decide +kernel)) ggX2_built_X2_built
set_option maxRecDepth 20000 in
theorem ggX2_built_X6_keyAt : GoodIn wsX2_built wsX6_keyAt := goodIn_r _ [9, 10, 11, 12, 13, 14, 15, 71, 72, 73] (by decide +kernel) (by decide +kernel)
set_option maxRecDepth 20000 in
theorem gX2_built_X6_keyAt : GoodIn wsX2_built (wsV RX2 104 RX6 yX6_keyAt wsX6_keyAt) := goodIn_app (goodIn_of _ (by decide +kernel)) ggX2_built_X6_keyAt
set_option maxRecDepth 20000 in
theorem ggX2_built_X6_valueAt : GoodIn wsX2_built wsX6_valueAt := goodIn_r _ [19, 10, 20, 12, 13, 14, 15, 71, 72, 73] (by decide +kernel) (by decide +kernel)
set_option maxRecDepth 20000 in
theorem gX2_built_X6_valueAt : GoodIn wsX2_built (wsV RX2 110 RX6 yX6_valueAt wsX6_valueAt) := goodIn_app (goodIn_of _ (by decide +kernel)) ggX2_built_X6_valueAt
set_option maxRecDepth 20000 in
theorem ggX2_built_X2_join : GoodIn wsX2_built wsX2_join := goodIn_r _ [24, 25, 26, 27, 28, 29, 30, 31, 32, 33, 34, 35, 36, 37, 38, 4, 39, 40, 41, 42, 43, 44, 45, 46, 47, 48, 49, 50, 51, 52, 53, 54, 55, 56, 57, 58, 59, 60, 61, 62, 21, 22, 23, 63, 64, 65, 66, 67, 68, 69, 70, 74, 75, 76, 77, 78, 79, 80, 81, 82, 83, 84, 85, 86] (by decide +kernel) (by decide +kernel)
set_option maxRecDepth 20000 in
theorem gX2_built_X2_join : GoodIn wsX2_built (wsV RX2 79 RX2 yX2_join wsX2_join) := goodIn_app (goodIn_of _ (by decide +kernel)) ggX2_built_X2_join
theorem dX2_built_0 : decode cX2_built 0 = .ok (.iload_n 2, 1) := by decide +kernel
theorem dX2_built_1 : decode cX2_built 1 = .ok (.iload_n 3, 1) := by decide +kernel
theorem dX2_built_2 : decode cX2_built 2 = .ok (.if_icmp .ge 10, 3) := by decide +kernel
theorem dX2_built_5 : decode cX2_built 5 = .ok (.iload 4, 2) := by decide +kernel
theorem dX2_built_7 : decode cX2_built 7 = .ok (.bipush 40, 2) := by decide +kernel
theorem dX2_built_9 : decode cX2_built 9 = .ok (.if_icmp .le 5, 3) := by decide +kernel
theorem dX2_built_12 : decode cX2_built 12 = .ok (.aconst_null, 1) := by decide +kernel
theorem dX2_built_13 : decode cX2_built 13 = .ok (.areturn, 1) := by decide +kernel
theorem dX2_built_14 : decode cX2_built 14 = .ok (.iload_n 2, 1) := by decide +kernel
theorem dX2_built_15 : decode cX2_built 15 = .ok (.iload_n 3, 1) := by decide +kernel
theorem dX2_built_16 : decode cX2_built 16 = .ok (.iadd, 1) := by decide +kernel
theorem dX2_built_17 : decode cX2_built 17 = .ok (.iconst 2, 1) := by decide +kernel
theorem dX2_built_18 : decode cX2_built 18 = .ok (.idiv, 1) := by decide +kernel
theorem dX2_built_19 : decode cX2_built 19 = .ok (.istore 5, 2) := by decide +kernel
theorem dX2_built_21 : decode cX2_built 21 = .ok (.aload_n 0, 1) := by decide +kernel
theorem dX2_built_22 : decode cX2_built 22 = .ok (.aload_n 1, 1) := by decide +kernel
theorem dX2_built_23 : decode cX2_built 23 = .ok (.iload_n 2, 1) := by decide +kernel
theorem dX2_built_24 : decode cX2_built 24 = .ok (.iload 5, 2) := by decide +kernel
theorem dX2_built_26 : decode cX2_built 26 = .ok (.iload 4, 2) := by decide +kernel
theorem dX2_built_28 : decode cX2_built 28 = .ok (.iconst 1, 1) := by decide +kernel
theorem dX2_built_29 : decode cX2_built 29 = .ok (.iadd, 1) := by decide +kernel
theorem dX2_built_30 : decode cX2_built 30 = .ok (.invokevirtual 100, 3) := by decide +kernel
theorem dX2_built_33 : decode cX2_built 33 = .ok (.astore 6, 2) := by decide +kernel
theorem dX2_built_35 : decode cX2_built 35 = .ok (.aload_n 0, 1) := by decide +kernel
theorem dX2_built_36 : decode cX2_built 36 = .ok (.aload_n 1, 1) := by decide +kernel
theorem dX2_built_37 : decode cX2_built 37 = .ok (.iload 5, 2) := by decide +kernel
theorem dX2_built_39 : decode cX2_built 39 = .ok (.iconst 1, 1) := by decide +kernel
theorem dX2_built_40 : decode cX2_built 40 = .ok (.iadd, 1) := by decide +kernel
theorem dX2_built_41 : decode cX2_built 41 = .ok (.iload_n 3, 1) := by decide +kernel
theorem dX2_built_42 : decode cX2_built 42 = .ok (.iload 4, 2) := by decide +kernel
theorem dX2_built_44 : decode cX2_built 44 = .ok (.iconst 1, 1) := by decide +kernel
theorem dX2_built_45 : decode cX2_built 45 = .ok (.iadd, 1) := by decide +kernel
theorem dX2_built_46 : decode cX2_built 46 = .ok (.invokevirtual 100, 3) := by decide +kernel
theorem dX2_built_49 : decode cX2_built 49 = .ok (.astore 7, 2) := by decide +kernel
theorem dX2_built_51 : decode cX2_built 51 = .ok (.aload_n 0, 1) := by decide +kernel
theorem dX2_built_52 : decode cX2_built 52 = .ok (.aload 6, 2) := by decide +kernel
theorem dX2_built_54 : decode cX2_built 54 = .ok (.aload_n 1, 1) := by decide +kernel
theorem dX2_built_55 : decode cX2_built 55 = .ok (.iload 5, 2) := by decide +kernel
theorem dX2_built_57 : decode cX2_built 57 = .ok (.invokevirtual 104, 3) := by decide +kernel
theorem dX2_built_60 : decode cX2_built 60 = .ok (.aload_n 1, 1) := by decide +kernel
theorem dX2_built_61 : decode cX2_built 61 = .ok (.iload 5, 2) := by decide +kernel
theorem dX2_built_63 : decode cX2_built 63 = .ok (.invokevirtual 110, 3) := by decide +kernel
theorem dX2_built_66 : decode cX2_built 66 = .ok (.aload 7, 2) := by decide +kernel
theorem dX2_built_68 : decode cX2_built 68 = .ok (.iconst 0, 1) := by decide +kernel
theorem dX2_built_69 : decode cX2_built 69 = .ok (.invokevirtual 79, 3) := by decide +kernel
theorem dX2_built_72 : decode cX2_built 72 = .ok (.areturn, 1) := by decide +kernel
set_option maxRecDepth 20000 in
theorem ggX2_isWell_X3_countOf : GoodIn wsX2_isWell wsX3_countOf := goodIn_r _ [10, 11, 26, 27, 28, 29, 30, 31, 32, 33, 34] (by decide +kernel) (by decide +kernel)
set_option maxRecDepth 20000 in
theorem gX2_isWell_X3_countOf : GoodIn wsX2_isWell (va_wsS RX2 43 yX3_countOf wsX3_countOf) := goodIn_app (goodIn_of _ (by decide +kernel)) ggX2_isWell_X3_countOf
set_option maxRecDepth 20000 in
theorem ggX2_isWell_X3_sumOf : GoodIn wsX2_isWell wsX3_sumOf := goodIn_r _ [14, 15, 26, 27, 28, 29, 30, 31, 32, 33, 34] (by decide +kernel) (by decide +kernel)
set_option maxRecDepth 20000 in
theorem gX2_isWell_X3_sumOf : GoodIn wsX2_isWell (va_wsS RX2 50 yX3_sumOf wsX3_sumOf) := goodIn_app (goodIn_of _ (by decide +kernel)) ggX2_isWell_X3_sumOf
set_option maxRecDepth 20000 in
theorem ggX2_isWell_X3_weightOf : GoodIn wsX2_isWell wsX3_weightOf := goodIn_r _ [18, 19, 8, 9, 10, 11, 26, 27, 28, 29, 30, 31, 32, 33, 34] (by decide +kernel) (by decide +kernel)
set_option maxRecDepth 20000 in
theorem gX2_isWell_X3_weightOf : GoodIn wsX2_isWell (va_wsS RX2 68 yX3_weightOf wsX3_weightOf) := goodIn_app (goodIn_of _ (by decide +kernel)) ggX2_isWell_X3_weightOf
set_option maxRecDepth 20000 in
theorem ggX2_isWell_X2_isBalanced : GoodIn wsX2_isWell wsX2_isBalanced := goodIn_r _ [23] (by decide +kernel) (by decide +kernel)
set_option maxRecDepth 20000 in
theorem gX2_isWell_X2_isBalanced : GoodIn wsX2_isWell (va_wsS RX2 71 yX2_isBalanced wsX2_isBalanced) := goodIn_app (goodIn_of _ (by decide +kernel)) ggX2_isWell_X2_isBalanced
set_option maxRecDepth 20000 in
theorem ggX2_isWell_X2_isWell : GoodIn wsX2_isWell wsX2_isWell := goodIn_r _ [0, 1, 2, 3, 4, 5, 6, 7, 8, 9, 10, 11, 12, 13, 14, 15, 16, 17, 18, 19, 20, 21, 22, 23, 24, 25, 26, 27, 28, 29, 30, 31, 32, 33, 34] (by decide +kernel) (by decide +kernel)
set_option maxRecDepth 20000 in
theorem gX2_isWell_X2_isWell : GoodIn wsX2_isWell (va_wsS RX2 113 yX2_isWell wsX2_isWell) := goodIn_app (goodIn_of _ (by decide +kernel)) ggX2_isWell_X2_isWell
theorem dX2_isWell_0 : decode cX2_isWell 0 = .ok (.aload_n 0, 1) := by decide +kernel
theorem dX2_isWell_1 : decode cX2_isWell 1 = .ok (.ifnonnull 5, 3) := by decide +kernel
theorem dX2_isWell_4 : decode cX2_isWell 4 = .ok (.iconst 1, 1) := by decide +kernel
theorem dX2_isWell_5 : decode cX2_isWell 5 = .ok (.ireturn, 1) := by decide +kernel
theorem dX2_isWell_6 : decode cX2_isWell 6 = .ok (.aload_n 0, 1) := by decide +kernel
theorem dX2_isWell_7 : decode cX2_isWell 7 = .ok (.getfield 47, 3) := by decide +kernel
theorem dX2_isWell_10 : decode cX2_isWell 10 = .ok (.aload_n 0, 1) := by decide +kernel
theorem dX2_isWell_11 : decode cX2_isWell 11 = .ok (.getfield 37, 3) := by decide +kernel
theorem dX2_isWell_14 : decode cX2_isWell 14 = .ok (.invokestatic 43, 3) := by decide +kernel
theorem dX2_isWell_17 : decode cX2_isWell 17 = .ok (.iconst 1, 1) := by decide +kernel
theorem dX2_isWell_18 : decode cX2_isWell 18 = .ok (.iadd, 1) := by decide +kernel
theorem dX2_isWell_19 : decode cX2_isWell 19 = .ok (.aload_n 0, 1) := by decide +kernel
theorem dX2_isWell_20 : decode cX2_isWell 20 = .ok (.getfield 40, 3) := by decide +kernel
theorem dX2_isWell_23 : decode cX2_isWell 23 = .ok (.invokestatic 43, 3) := by decide +kernel
theorem dX2_isWell_26 : decode cX2_isWell 26 = .ok (.iadd, 1) := by decide +kernel
theorem dX2_isWell_27 : decode cX2_isWell 27 = .ok (.if_icmp .ne 7, 3) := by decide +kernel
theorem dX2_isWell_30 : decode cX2_isWell 30 = .ok (.iconst 1, 1) := by decide +kernel
theorem dX2_isWell_31 : decode cX2_isWell 31 = .ok (.goto 4, 3) := by decide +kernel
theorem dX2_isWell_34 : decode cX2_isWell 34 = .ok (.iconst 0, 1) := by decide +kernel
theorem dX2_isWell_35 : decode cX2_isWell 35 = .ok (.istore 4, 2) := by decide +kernel
theorem dX2_isWell_37 : decode cX2_isWell 37 = .ok (.aload_n 0, 1) := by decide +kernel
theorem dX2_isWell_38 : decode cX2_isWell 38 = .ok (.getfield 54, 3) := by decide +kernel
theorem dX2_isWell_41 : decode cX2_isWell 41 = .ok (.aload_n 0, 1) := by decide +kernel
theorem dX2_isWell_42 : decode cX2_isWell 42 = .ok (.getfield 37, 3) := by decide +kernel
theorem dX2_isWell_45 : decode cX2_isWell 45 = .ok (.invokestatic 50, 3) := by decide +kernel
theorem dX2_isWell_48 : decode cX2_isWell 48 = .ok (.aload_n 0, 1) := by decide +kernel
theorem dX2_isWell_49 : decode cX2_isWell 49 = .ok (.getfield 34, 3) := by decide +kernel
theorem dX2_isWell_52 : decode cX2_isWell 52 = .ok (.i2l, 1) := by decide +kernel
theorem dX2_isWell_53 : decode cX2_isWell 53 = .ok (.ladd, 1) := by decide +kernel
theorem dX2_isWell_54 : decode cX2_isWell 54 = .ok (.aload_n 0, 1) := by decide +kernel
theorem dX2_isWell_55 : decode cX2_isWell 55 = .ok (.getfield 40, 3) := by decide +kernel
theorem dX2_isWell_58 : decode cX2_isWell 58 = .ok (.invokestatic 50, 3) := by decide +kernel
theorem dX2_isWell_61 : decode cX2_isWell 61 = .ok (.ladd, 1) := by decide +kernel
theorem dX2_isWell_62 : decode cX2_isWell 62 = .ok (.lcmp, 1) := by decide +kernel
theorem dX2_isWell_63 : decode cX2_isWell 63 = .ok (.ifCond .ne 7, 3) := by decide +kernel
theorem dX2_isWell_66 : decode cX2_isWell 66 = .ok (.iconst 1, 1) := by decide +kernel
theorem dX2_isWell_67 : decode cX2_isWell 67 = .ok (.goto 4, 3) := by decide +kernel
theorem dX2_isWell_70 : decode cX2_isWell 70 = .ok (.iconst 0, 1) := by decide +kernel
theorem dX2_isWell_71 : decode cX2_isWell 71 = .ok (.istore 5, 2) := by decide +kernel
theorem dX2_isWell_73 : decode cX2_isWell 73 = .ok (.aload_n 0, 1) := by decide +kernel
theorem dX2_isWell_74 : decode cX2_isWell 74 = .ok (.getfield 31, 3) := by decide +kernel
theorem dX2_isWell_77 : decode cX2_isWell 77 = .ok (.iload_n 1, 1) := by decide +kernel
theorem dX2_isWell_78 : decode cX2_isWell 78 = .ok (.if_icmp .le 15, 3) := by decide +kernel
theorem dX2_isWell_81 : decode cX2_isWell 81 = .ok (.aload_n 0, 1) := by decide +kernel
theorem dX2_isWell_82 : decode cX2_isWell 82 = .ok (.getfield 31, 3) := by decide +kernel
theorem dX2_isWell_85 : decode cX2_isWell 85 = .ok (.iload_n 2, 1) := by decide +kernel
theorem dX2_isWell_86 : decode cX2_isWell 86 = .ok (.if_icmp .ge 7, 3) := by decide +kernel
theorem dX2_isWell_89 : decode cX2_isWell 89 = .ok (.iconst 1, 1) := by decide +kernel
theorem dX2_isWell_90 : decode cX2_isWell 90 = .ok (.goto 4, 3) := by decide +kernel
theorem dX2_isWell_93 : decode cX2_isWell 93 = .ok (.iconst 0, 1) := by decide +kernel
theorem dX2_isWell_94 : decode cX2_isWell 94 = .ok (.istore 6, 2) := by decide +kernel
theorem dX2_isWell_96 : decode cX2_isWell 96 = .ok (.aload_n 0, 1) := by decide +kernel
theorem dX2_isWell_97 : decode cX2_isWell 97 = .ok (.getfield 37, 3) := by decide +kernel
theorem dX2_isWell_100 : decode cX2_isWell 100 = .ok (.invokestatic 68, 3) := by decide +kernel
theorem dX2_isWell_103 : decode cX2_isWell 103 = .ok (.aload_n 0, 1) := by decide +kernel
theorem dX2_isWell_104 : decode cX2_isWell 104 = .ok (.getfield 40, 3) := by decide +kernel
theorem dX2_isWell_107 : decode cX2_isWell 107 = .ok (.invokestatic 68, 3) := by decide +kernel
theorem dX2_isWell_110 : decode cX2_isWell 110 = .ok (.invokestatic 71, 3) := by decide +kernel
theorem dX2_isWell_113 : decode cX2_isWell 113 = .ok (.istore 7, 2) := by decide +kernel
theorem dX2_isWell_115 : decode cX2_isWell 115 = .ok (.iload_n 3, 1) := by decide +kernel
theorem dX2_isWell_116 : decode cX2_isWell 116 = .ok (.bipush 40, 2) := by decide +kernel
theorem dX2_isWell_118 : decode cX2_isWell 118 = .ok (.if_icmp .gt 63, 3) := by decide +kernel
theorem dX2_isWell_121 : decode cX2_isWell 121 = .ok (.iload 4, 2) := by decide +kernel
theorem dX2_isWell_123 : decode cX2_isWell 123 = .ok (.ifCond .eq 58, 3) := by decide +kernel
theorem dX2_isWell_126 : decode cX2_isWell 126 = .ok (.iload 5, 2) := by decide +kernel
theorem dX2_isWell_128 : decode cX2_isWell 128 = .ok (.ifCond .eq 53, 3) := by decide +kernel
theorem dX2_isWell_131 : decode cX2_isWell 131 = .ok (.iload 6, 2) := by decide +kernel
theorem dX2_isWell_133 : decode cX2_isWell 133 = .ok (.ifCond .eq 48, 3) := by decide +kernel
theorem dX2_isWell_136 : decode cX2_isWell 136 = .ok (.iload 7, 2) := by decide +kernel
theorem dX2_isWell_138 : decode cX2_isWell 138 = .ok (.ifCond .eq 43, 3) := by decide +kernel
theorem dX2_isWell_141 : decode cX2_isWell 141 = .ok (.aload_n 0, 1) := by decide +kernel
theorem dX2_isWell_142 : decode cX2_isWell 142 = .ok (.getfield 37, 3) := by decide +kernel
theorem dX2_isWell_145 : decode cX2_isWell 145 = .ok (.iload_n 1, 1) := by decide +kernel
theorem dX2_isWell_146 : decode cX2_isWell 146 = .ok (.aload_n 0, 1) := by decide +kernel
theorem dX2_isWell_147 : decode cX2_isWell 147 = .ok (.getfield 31, 3) := by decide +kernel
theorem dX2_isWell_150 : decode cX2_isWell 150 = .ok (.iload_n 3, 1) := by decide +kernel
theorem dX2_isWell_151 : decode cX2_isWell 151 = .ok (.iconst 1, 1) := by decide +kernel
theorem dX2_isWell_152 : decode cX2_isWell 152 = .ok (.iadd, 1) := by decide +kernel
theorem dX2_isWell_153 : decode cX2_isWell 153 = .ok (.invokestatic 113, 3) := by decide +kernel
theorem dX2_isWell_156 : decode cX2_isWell 156 = .ok (.ifCond .eq 25, 3) := by decide +kernel
theorem dX2_isWell_159 : decode cX2_isWell 159 = .ok (.aload_n 0, 1) := by decide +kernel
theorem dX2_isWell_160 : decode cX2_isWell 160 = .ok (.getfield 40, 3) := by decide +kernel
theorem dX2_isWell_163 : decode cX2_isWell 163 = .ok (.aload_n 0, 1) := by decide +kernel
theorem dX2_isWell_164 : decode cX2_isWell 164 = .ok (.getfield 31, 3) := by decide +kernel
theorem dX2_isWell_167 : decode cX2_isWell 167 = .ok (.iload_n 2, 1) := by decide +kernel
theorem dX2_isWell_168 : decode cX2_isWell 168 = .ok (.iload_n 3, 1) := by decide +kernel
theorem dX2_isWell_169 : decode cX2_isWell 169 = .ok (.iconst 1, 1) := by decide +kernel
theorem dX2_isWell_170 : decode cX2_isWell 170 = .ok (.iadd, 1) := by decide +kernel
theorem dX2_isWell_171 : decode cX2_isWell 171 = .ok (.invokestatic 113, 3) := by decide +kernel
theorem dX2_isWell_174 : decode cX2_isWell 174 = .ok (.ifCond .eq 7, 3) := by decide +kernel
theorem dX2_isWell_177 : decode cX2_isWell 177 = .ok (.iconst 1, 1) := by decide +kernel
theorem dX2_isWell_178 : decode cX2_isWell 178 = .ok (.goto 4, 3) := by decide +kernel
theorem dX2_isWell_181 : decode cX2_isWell 181 = .ok (.iconst 0, 1) := by decide +kernel
theorem dX2_isWell_182 : decode cX2_isWell 182 = .ok (.ireturn, 1) := by decide +kernel
theorem dX3_init_0 : decode cX3_init 0 = .ok (.aload_n 0, 1) := by decide +kernel
theorem dX3_init_1 : decode cX3_init 1 = .ok (.invokespecial 3, 3) := by decide +kernel
theorem dX3_init_4 : decode cX3_init 4 = .ok (.return_, 1) := by decide +kernel
theorem dX3_countOf_0 : decode cX3_countOf 0 = .ok (.aload_n 0, 1) := by decide +kernel
theorem dX3_countOf_1 : decode cX3_countOf 1 = .ok (.ifnonnull 7, 3) := by decide +kernel
theorem dX3_countOf_4 : decode cX3_countOf 4 = .ok (.iconst 0, 1) := by decide +kernel
theorem dX3_countOf_5 : decode cX3_countOf 5 = .ok (.goto 7, 3) := by decide +kernel
theorem dX3_countOf_8 : decode cX3_countOf 8 = .ok (.aload_n 0, 1) := by decide +kernel
theorem dX3_countOf_9 : decode cX3_countOf 9 = .ok (.getfield 9, 3) := by decide +kernel
theorem dX3_countOf_12 : decode cX3_countOf 12 = .ok (.ireturn, 1) := by decide +kernel
theorem dX3_sumOf_0 : decode cX3_sumOf 0 = .ok (.aload_n 0, 1) := by decide +kernel
theorem dX3_sumOf_1 : decode cX3_sumOf 1 = .ok (.ifnonnull 7, 3) := by decide +kernel
theorem dX3_sumOf_4 : decode cX3_sumOf 4 = .ok (.lconst 0, 1) := by decide +kernel
theorem dX3_sumOf_5 : decode cX3_sumOf 5 = .ok (.goto 7, 3) := by decide +kernel
theorem dX3_sumOf_8 : decode cX3_sumOf 8 = .ok (.aload_n 0, 1) := by decide +kernel
theorem dX3_sumOf_9 : decode cX3_sumOf 9 = .ok (.getfield 15, 3) := by decide +kernel
theorem dX3_sumOf_12 : decode cX3_sumOf 12 = .ok (.lreturn, 1) := by decide +kernel
set_option maxRecDepth 20000 in
theorem ggX3_weightOf_X3_countOf : GoodIn wsX3_weightOf wsX3_countOf := goodIn_r _ [4, 5, 6, 7, 8, 9, 10, 11, 12, 13, 14] (by decide +kernel) (by decide +kernel)
set_option maxRecDepth 20000 in
theorem gX3_weightOf_X3_countOf : GoodIn wsX3_weightOf (va_wsS RX3 19 yX3_countOf wsX3_countOf) := goodIn_app (goodIn_of _ (by decide +kernel)) ggX3_weightOf_X3_countOf
theorem dX3_weightOf_0 : decode cX3_weightOf 0 = .ok (.aload_n 0, 1) := by decide +kernel
theorem dX3_weightOf_1 : decode cX3_weightOf 1 = .ok (.invokestatic 19, 3) := by decide +kernel
theorem dX3_weightOf_4 : decode cX3_weightOf 4 = .ok (.iconst 1, 1) := by decide +kernel
theorem dX3_weightOf_5 : decode cX3_weightOf 5 = .ok (.iadd, 1) := by decide +kernel
theorem dX3_weightOf_6 : decode cX3_weightOf 6 = .ok (.ireturn, 1) := by decide +kernel
theorem dX3_find_0 : decode cX3_find 0 = .ok (.aload_n 0, 1) := by decide +kernel
theorem dX3_find_1 : decode cX3_find 1 = .ok (.astore_n 2, 1) := by decide +kernel
theorem dX3_find_2 : decode cX3_find 2 = .ok (.aload_n 2, 1) := by decide +kernel
theorem dX3_find_3 : decode cX3_find 3 = .ok (.ifnull 34, 3) := by decide +kernel
theorem dX3_find_6 : decode cX3_find 6 = .ok (.aload_n 2, 1) := by decide +kernel
theorem dX3_find_7 : decode cX3_find 7 = .ok (.getfield 23, 3) := by decide +kernel
theorem dX3_find_10 : decode cX3_find 10 = .ok (.iload_n 1, 1) := by decide +kernel
theorem dX3_find_11 : decode cX3_find 11 = .ok (.if_icmp .eq 26, 3) := by decide +kernel
theorem dX3_find_14 : decode cX3_find 14 = .ok (.iload_n 1, 1) := by decide +kernel
theorem dX3_find_15 : decode cX3_find 15 = .ok (.aload_n 2, 1) := by decide +kernel
theorem dX3_find_16 : decode cX3_find 16 = .ok (.getfield 23, 3) := by decide +kernel
theorem dX3_find_19 : decode cX3_find 19 = .ok (.if_icmp .ge 10, 3) := by decide +kernel
theorem dX3_find_22 : decode cX3_find 22 = .ok (.aload_n 2, 1) := by decide +kernel
theorem dX3_find_23 : decode cX3_find 23 = .ok (.getfield 26, 3) := by decide +kernel
theorem dX3_find_26 : decode cX3_find 26 = .ok (.goto 7, 3) := by decide +kernel
theorem dX3_find_29 : decode cX3_find 29 = .ok (.aload_n 2, 1) := by decide +kernel
theorem dX3_find_30 : decode cX3_find 30 = .ok (.getfield 30, 3) := by decide +kernel
theorem dX3_find_33 : decode cX3_find 33 = .ok (.astore_n 2, 1) := by decide +kernel
theorem dX3_find_34 : decode cX3_find 34 = .ok (.goto (-32), 3) := by decide +kernel
theorem dX3_find_37 : decode cX3_find 37 = .ok (.aload_n 2, 1) := by decide +kernel
theorem dX3_find_38 : decode cX3_find 38 = .ok (.areturn, 1) := by decide +kernel
set_option maxRecDepth 20000 in
theorem ggX3_countBelow_X3_countOf : GoodIn wsX3_countBelow wsX3_countOf := goodIn_r _ [7, 8, 9, 10, 11, 12, 13, 14, 15, 16, 17] (by decide +kernel) (by decide +kernel)
set_option maxRecDepth 20000 in
theorem gX3_countBelow_X3_countOf : GoodIn wsX3_countBelow (va_wsS RX3 19 yX3_countOf wsX3_countOf) := goodIn_app (goodIn_of _ (by decide +kernel)) ggX3_countBelow_X3_countOf
theorem dX3_countBelow_0 : decode cX3_countBelow 0 = .ok (.iconst 0, 1) := by decide +kernel
theorem dX3_countBelow_1 : decode cX3_countBelow 1 = .ok (.istore_n 2, 1) := by decide +kernel
theorem dX3_countBelow_2 : decode cX3_countBelow 2 = .ok (.aload_n 0, 1) := by decide +kernel
theorem dX3_countBelow_3 : decode cX3_countBelow 3 = .ok (.astore_n 3, 1) := by decide +kernel
theorem dX3_countBelow_4 : decode cX3_countBelow 4 = .ok (.aload_n 3, 1) := by decide +kernel
theorem dX3_countBelow_5 : decode cX3_countBelow 5 = .ok (.ifnull 39, 3) := by decide +kernel
theorem dX3_countBelow_8 : decode cX3_countBelow 8 = .ok (.aload_n 3, 1) := by decide +kernel
theorem dX3_countBelow_9 : decode cX3_countBelow 9 = .ok (.getfield 23, 3) := by decide +kernel
theorem dX3_countBelow_12 : decode cX3_countBelow 12 = .ok (.iload_n 1, 1) := by decide +kernel
theorem dX3_countBelow_13 : decode cX3_countBelow 13 = .ok (.if_icmp .ge 23, 3) := by decide +kernel
theorem dX3_countBelow_16 : decode cX3_countBelow 16 = .ok (.iload_n 2, 1) := by decide +kernel
theorem dX3_countBelow_17 : decode cX3_countBelow 17 = .ok (.aload_n 3, 1) := by decide +kernel
theorem dX3_countBelow_18 : decode cX3_countBelow 18 = .ok (.getfield 26, 3) := by decide +kernel
theorem dX3_countBelow_21 : decode cX3_countBelow 21 = .ok (.invokestatic 19, 3) := by decide +kernel
theorem dX3_countBelow_24 : decode cX3_countBelow 24 = .ok (.iconst 1, 1) := by decide +kernel
theorem dX3_countBelow_25 : decode cX3_countBelow 25 = .ok (.iadd, 1) := by decide +kernel
theorem dX3_countBelow_26 : decode cX3_countBelow 26 = .ok (.iadd, 1) := by decide +kernel
theorem dX3_countBelow_27 : decode cX3_countBelow 27 = .ok (.istore_n 2, 1) := by decide +kernel
theorem dX3_countBelow_28 : decode cX3_countBelow 28 = .ok (.aload_n 3, 1) := by decide +kernel
theorem dX3_countBelow_29 : decode cX3_countBelow 29 = .ok (.getfield 30, 3) := by decide +kernel
theorem dX3_countBelow_32 : decode cX3_countBelow 32 = .ok (.astore_n 3, 1) := by decide +kernel
theorem dX3_countBelow_33 : decode cX3_countBelow 33 = .ok (.goto (-29), 3) := by decide +kernel
theorem dX3_countBelow_36 : decode cX3_countBelow 36 = .ok (.aload_n 3, 1) := by decide +kernel
theorem dX3_countBelow_37 : decode cX3_countBelow 37 = .ok (.getfield 26, 3) := by decide +kernel
theorem dX3_countBelow_40 : decode cX3_countBelow 40 = .ok (.astore_n 3, 1) := by decide +kernel
theorem dX3_countBelow_41 : decode cX3_countBelow 41 = .ok (.goto (-37), 3) := by decide +kernel
theorem dX3_countBelow_44 : decode cX3_countBelow 44 = .ok (.iload_n 2, 1) := by decide +kernel
theorem dX3_countBelow_45 : decode cX3_countBelow 45 = .ok (.ireturn, 1) := by decide +kernel
set_option maxRecDepth 20000 in
theorem ggX3_countWithin_X3_countBelow : GoodIn wsX3_countWithin wsX3_countBelow := goodIn_r _ [4, 5, 6, 7, 8, 9, 3, 10, 11, 12, 13, 14, 15, 16, 17, 18, 19, 20] (by decide +kernel) (by decide +kernel)
set_option maxRecDepth 20000 in
theorem gX3_countWithin_X3_countBelow : GoodIn wsX3_countWithin (va_wsS RX3 33 yX3_countBelow wsX3_countBelow) := goodIn_app (goodIn_of _ (by decide +kernel)) ggX3_countWithin_X3_countBelow
theorem dX3_countWithin_0 : decode cX3_countWithin 0 = .ok (.aload_n 0, 1) := by decide +kernel
theorem dX3_countWithin_1 : decode cX3_countWithin 1 = .ok (.iload_n 2, 1) := by decide +kernel
theorem dX3_countWithin_2 : decode cX3_countWithin 2 = .ok (.iconst 1, 1) := by decide +kernel
theorem dX3_countWithin_3 : decode cX3_countWithin 3 = .ok (.iadd, 1) := by decide +kernel
theorem dX3_countWithin_4 : decode cX3_countWithin 4 = .ok (.invokestatic 33, 3) := by decide +kernel
theorem dX3_countWithin_7 : decode cX3_countWithin 7 = .ok (.aload_n 0, 1) := by decide +kernel
theorem dX3_countWithin_8 : decode cX3_countWithin 8 = .ok (.iload_n 1, 1) := by decide +kernel
theorem dX3_countWithin_9 : decode cX3_countWithin 9 = .ok (.invokestatic 33, 3) := by decide +kernel
theorem dX3_countWithin_12 : decode cX3_countWithin 12 = .ok (.isub, 1) := by decide +kernel
theorem dX3_countWithin_13 : decode cX3_countWithin 13 = .ok (.ireturn, 1) := by decide +kernel
set_option maxRecDepth 20000 in
theorem ggX3_sumBelow_X3_sumOf : GoodIn wsX3_sumBelow wsX3_sumOf := goodIn_r _ [8, 9, 10, 11, 12, 13, 14, 15, 16, 17, 18] (by decide +kernel) (by decide +kernel)
set_option maxRecDepth 20000 in
theorem gX3_sumBelow_X3_sumOf : GoodIn wsX3_sumBelow (va_wsS RX3 37 yX3_sumOf wsX3_sumOf) := goodIn_app (goodIn_of _ (by decide +kernel)) ggX3_sumBelow_X3_sumOf
theorem dX3_sumBelow_0 : decode cX3_sumBelow 0 = .ok (.lconst 0, 1) := by decide +kernel
theorem dX3_sumBelow_1 : decode cX3_sumBelow 1 = .ok (.lstore_n 2, 1) := by decide +kernel
theorem dX3_sumBelow_2 : decode cX3_sumBelow 2 = .ok (.aload_n 0, 1) := by decide +kernel
theorem dX3_sumBelow_3 : decode cX3_sumBelow 3 = .ok (.astore 4, 2) := by decide +kernel
theorem dX3_sumBelow_5 : decode cX3_sumBelow 5 = .ok (.aload 4, 2) := by decide +kernel
theorem dX3_sumBelow_7 : decode cX3_sumBelow 7 = .ok (.ifnull 50, 3) := by decide +kernel
theorem dX3_sumBelow_10 : decode cX3_sumBelow 10 = .ok (.aload 4, 2) := by decide +kernel
theorem dX3_sumBelow_12 : decode cX3_sumBelow 12 = .ok (.getfield 23, 3) := by decide +kernel
theorem dX3_sumBelow_15 : decode cX3_sumBelow 15 = .ok (.iload_n 1, 1) := by decide +kernel
theorem dX3_sumBelow_16 : decode cX3_sumBelow 16 = .ok (.if_icmp .ge 31, 3) := by decide +kernel
theorem dX3_sumBelow_19 : decode cX3_sumBelow 19 = .ok (.lload_n 2, 1) := by decide +kernel
theorem dX3_sumBelow_20 : decode cX3_sumBelow 20 = .ok (.aload 4, 2) := by decide +kernel
theorem dX3_sumBelow_22 : decode cX3_sumBelow 22 = .ok (.getfield 26, 3) := by decide +kernel
theorem dX3_sumBelow_25 : decode cX3_sumBelow 25 = .ok (.invokestatic 37, 3) := by decide +kernel
theorem dX3_sumBelow_28 : decode cX3_sumBelow 28 = .ok (.aload 4, 2) := by decide +kernel
theorem dX3_sumBelow_30 : decode cX3_sumBelow 30 = .ok (.getfield 41, 3) := by decide +kernel
theorem dX3_sumBelow_33 : decode cX3_sumBelow 33 = .ok (.i2l, 1) := by decide +kernel
theorem dX3_sumBelow_34 : decode cX3_sumBelow 34 = .ok (.ladd, 1) := by decide +kernel
theorem dX3_sumBelow_35 : decode cX3_sumBelow 35 = .ok (.ladd, 1) := by decide +kernel
theorem dX3_sumBelow_36 : decode cX3_sumBelow 36 = .ok (.lstore_n 2, 1) := by decide +kernel
theorem dX3_sumBelow_37 : decode cX3_sumBelow 37 = .ok (.aload 4, 2) := by decide +kernel
theorem dX3_sumBelow_39 : decode cX3_sumBelow 39 = .ok (.getfield 30, 3) := by decide +kernel
theorem dX3_sumBelow_42 : decode cX3_sumBelow 42 = .ok (.astore 4, 2) := by decide +kernel
theorem dX3_sumBelow_44 : decode cX3_sumBelow 44 = .ok (.goto (-39), 3) := by decide +kernel
theorem dX3_sumBelow_47 : decode cX3_sumBelow 47 = .ok (.aload 4, 2) := by decide +kernel
theorem dX3_sumBelow_49 : decode cX3_sumBelow 49 = .ok (.getfield 26, 3) := by decide +kernel
theorem dX3_sumBelow_52 : decode cX3_sumBelow 52 = .ok (.astore 4, 2) := by decide +kernel
theorem dX3_sumBelow_54 : decode cX3_sumBelow 54 = .ok (.goto (-49), 3) := by decide +kernel
theorem dX3_sumBelow_57 : decode cX3_sumBelow 57 = .ok (.lload_n 2, 1) := by decide +kernel
theorem dX3_sumBelow_58 : decode cX3_sumBelow 58 = .ok (.lreturn, 1) := by decide +kernel
set_option maxRecDepth 20000 in
theorem ggX3_keyAt_X3_countOf : GoodIn wsX3_keyAt wsX3_countOf := goodIn_r _ [8, 9, 10, 11, 12, 13, 14, 15, 16, 17, 18] (by decide +kernel) (by decide +kernel)
set_option maxRecDepth 20000 in
theorem gX3_keyAt_X3_countOf : GoodIn wsX3_keyAt (va_wsS RX3 19 yX3_countOf wsX3_countOf) := goodIn_app (goodIn_of _ (by decide +kernel)) ggX3_keyAt_X3_countOf
theorem dX3_keyAt_0 : decode cX3_keyAt 0 = .ok (.iload_n 1, 1) := by decide +kernel
theorem dX3_keyAt_1 : decode cX3_keyAt 1 = .ok (.istore_n 2, 1) := by decide +kernel
theorem dX3_keyAt_2 : decode cX3_keyAt 2 = .ok (.aload_n 0, 1) := by decide +kernel
theorem dX3_keyAt_3 : decode cX3_keyAt 3 = .ok (.astore_n 3, 1) := by decide +kernel
theorem dX3_keyAt_4 : decode cX3_keyAt 4 = .ok (.aload_n 3, 1) := by decide +kernel
theorem dX3_keyAt_5 : decode cX3_keyAt 5 = .ok (.ifnull 52, 3) := by decide +kernel
theorem dX3_keyAt_8 : decode cX3_keyAt 8 = .ok (.aload_n 3, 1) := by decide +kernel
theorem dX3_keyAt_9 : decode cX3_keyAt 9 = .ok (.getfield 26, 3) := by decide +kernel
theorem dX3_keyAt_12 : decode cX3_keyAt 12 = .ok (.invokestatic 19, 3) := by decide +kernel
theorem dX3_keyAt_15 : decode cX3_keyAt 15 = .ok (.istore 4, 2) := by decide +kernel
theorem dX3_keyAt_17 : decode cX3_keyAt 17 = .ok (.iload_n 2, 1) := by decide +kernel
theorem dX3_keyAt_18 : decode cX3_keyAt 18 = .ok (.iload 4, 2) := by decide +kernel
theorem dX3_keyAt_20 : decode cX3_keyAt 20 = .ok (.if_icmp .ne 8, 3) := by decide +kernel
theorem dX3_keyAt_23 : decode cX3_keyAt 23 = .ok (.aload_n 3, 1) := by decide +kernel
theorem dX3_keyAt_24 : decode cX3_keyAt 24 = .ok (.getfield 23, 3) := by decide +kernel
theorem dX3_keyAt_27 : decode cX3_keyAt 27 = .ok (.ireturn, 1) := by decide +kernel
theorem dX3_keyAt_28 : decode cX3_keyAt 28 = .ok (.iload_n 2, 1) := by decide +kernel
theorem dX3_keyAt_29 : decode cX3_keyAt 29 = .ok (.iload 4, 2) := by decide +kernel
theorem dX3_keyAt_31 : decode cX3_keyAt 31 = .ok (.if_icmp .ge 11, 3) := by decide +kernel
theorem dX3_keyAt_34 : decode cX3_keyAt 34 = .ok (.aload_n 3, 1) := by decide +kernel
theorem dX3_keyAt_35 : decode cX3_keyAt 35 = .ok (.getfield 26, 3) := by decide +kernel
theorem dX3_keyAt_38 : decode cX3_keyAt 38 = .ok (.astore_n 3, 1) := by decide +kernel
theorem dX3_keyAt_39 : decode cX3_keyAt 39 = .ok (.goto 15, 3) := by decide +kernel
theorem dX3_keyAt_42 : decode cX3_keyAt 42 = .ok (.iload_n 2, 1) := by decide +kernel
theorem dX3_keyAt_43 : decode cX3_keyAt 43 = .ok (.iload 4, 2) := by decide +kernel
theorem dX3_keyAt_45 : decode cX3_keyAt 45 = .ok (.iconst 1, 1) := by decide +kernel
theorem dX3_keyAt_46 : decode cX3_keyAt 46 = .ok (.iadd, 1) := by decide +kernel
theorem dX3_keyAt_47 : decode cX3_keyAt 47 = .ok (.isub, 1) := by decide +kernel
theorem dX3_keyAt_48 : decode cX3_keyAt 48 = .ok (.istore_n 2, 1) := by decide +kernel
theorem dX3_keyAt_49 : decode cX3_keyAt 49 = .ok (.aload_n 3, 1) := by decide +kernel
theorem dX3_keyAt_50 : decode cX3_keyAt 50 = .ok (.getfield 30, 3) := by decide +kernel
theorem dX3_keyAt_53 : decode cX3_keyAt 53 = .ok (.astore_n 3, 1) := by decide +kernel
theorem dX3_keyAt_54 : decode cX3_keyAt 54 = .ok (.goto (-50), 3) := by decide +kernel
theorem dX3_keyAt_57 : decode cX3_keyAt 57 = .ok (.ldc 44, 2) := by decide +kernel
theorem dX3_keyAt_59 : decode cX3_keyAt 59 = .ok (.ireturn, 1) := by decide +kernel
theorem dX4_init_0 : decode cX4_init 0 = .ok (.aload_n 0, 1) := by decide +kernel
theorem dX4_init_1 : decode cX4_init 1 = .ok (.invokespecial 3, 3) := by decide +kernel
theorem dX4_init_4 : decode cX4_init 4 = .ok (.aload_n 0, 1) := by decide +kernel
theorem dX4_init_5 : decode cX4_init 5 = .ok (.bipush 120, 2) := by decide +kernel
theorem dX4_init_7 : decode cX4_init 7 = .ok (.newarray .int, 2) := by decide +kernel
theorem dX4_init_9 : decode cX4_init 9 = .ok (.putfield 9, 3) := by decide +kernel
theorem dX4_init_12 : decode cX4_init 12 = .ok (.aload_n 0, 1) := by decide +kernel
theorem dX4_init_13 : decode cX4_init 13 = .ok (.bipush 120, 2) := by decide +kernel
theorem dX4_init_15 : decode cX4_init 15 = .ok (.newarray .int, 2) := by decide +kernel
theorem dX4_init_17 : decode cX4_init 17 = .ok (.putfield 15, 3) := by decide +kernel
theorem dX4_init_20 : decode cX4_init 20 = .ok (.return_, 1) := by decide +kernel
theorem dX4_add_0 : decode cX4_add 0 = .ok (.aload_n 0, 1) := by decide +kernel
theorem dX4_add_1 : decode cX4_add 1 = .ok (.getfield 18, 3) := by decide +kernel
theorem dX4_add_4 : decode cX4_add 4 = .ok (.bipush 120, 2) := by decide +kernel
theorem dX4_add_6 : decode cX4_add 6 = .ok (.if_icmp .ge 33, 3) := by decide +kernel
theorem dX4_add_9 : decode cX4_add 9 = .ok (.aload_n 0, 1) := by decide +kernel
theorem dX4_add_10 : decode cX4_add 10 = .ok (.getfield 9, 3) := by decide +kernel
theorem dX4_add_13 : decode cX4_add 13 = .ok (.aload_n 0, 1) := by decide +kernel
theorem dX4_add_14 : decode cX4_add 14 = .ok (.getfield 18, 3) := by decide +kernel
theorem dX4_add_17 : decode cX4_add 17 = .ok (.iload_n 1, 1) := by decide +kernel
theorem dX4_add_18 : decode cX4_add 18 = .ok (.iastore, 1) := by decide +kernel
theorem dX4_add_19 : decode cX4_add 19 = .ok (.aload_n 0, 1) := by decide +kernel
theorem dX4_add_20 : decode cX4_add 20 = .ok (.getfield 15, 3) := by decide +kernel
theorem dX4_add_23 : decode cX4_add 23 = .ok (.aload_n 0, 1) := by decide +kernel
theorem dX4_add_24 : decode cX4_add 24 = .ok (.getfield 18, 3) := by decide +kernel
theorem dX4_add_27 : decode cX4_add 27 = .ok (.iload_n 2, 1) := by decide +kernel
theorem dX4_add_28 : decode cX4_add 28 = .ok (.iastore, 1) := by decide +kernel
theorem dX4_add_29 : decode cX4_add 29 = .ok (.aload_n 0, 1) := by decide +kernel
theorem dX4_add_30 : decode cX4_add 30 = .ok (.dup, 1) := by decide +kernel
theorem dX4_add_31 : decode cX4_add 31 = .ok (.getfield 18, 3) := by decide +kernel
theorem dX4_add_34 : decode cX4_add 34 = .ok (.iconst 1, 1) := by decide +kernel
theorem dX4_add_35 : decode cX4_add 35 = .ok (.iadd, 1) := by decide +kernel
theorem dX4_add_36 : decode cX4_add 36 = .ok (.putfield 18, 3) := by decide +kernel
theorem dX4_add_39 : decode cX4_add 39 = .ok (.return_, 1) := by decide +kernel
set_option maxRecDepth 20000 in
theorem ggX4_deedAt_X8_isIn : GoodIn wsX4_deedAt wsX8_isIn := goodIn_r _ [5] (by decide +kernel) (by decide +kernel)
set_option maxRecDepth 20000 in
theorem gX4_deedAt_X8_isIn_n22 : GoodIn wsX4_deedAt (wsX8_isIn) := ggX4_deedAt_X8_isIn
theorem dX4_deedAt_0 : decode cX4_deedAt 0 = .ok (.iload_n 1, 1) := by decide +kernel
theorem dX4_deedAt_1 : decode cX4_deedAt 1 = .ok (.iconst 0, 1) := by decide +kernel
theorem dX4_deedAt_2 : decode cX4_deedAt 2 = .ok (.aload_n 0, 1) := by decide +kernel
theorem dX4_deedAt_3 : decode cX4_deedAt 3 = .ok (.getfield 18, 3) := by decide +kernel
theorem dX4_deedAt_6 : decode cX4_deedAt 6 = .ok (.iconst 1, 1) := by decide +kernel
theorem dX4_deedAt_7 : decode cX4_deedAt 7 = .ok (.isub, 1) := by decide +kernel
theorem dX4_deedAt_8 : decode cX4_deedAt 8 = .ok (.invokestatic 22, 3) := by decide +kernel
theorem dX4_deedAt_11 : decode cX4_deedAt 11 = .ok (.ifCond .eq 12, 3) := by decide +kernel
theorem dX4_deedAt_14 : decode cX4_deedAt 14 = .ok (.aload_n 0, 1) := by decide +kernel
theorem dX4_deedAt_15 : decode cX4_deedAt 15 = .ok (.getfield 9, 3) := by decide +kernel
theorem dX4_deedAt_18 : decode cX4_deedAt 18 = .ok (.iload_n 1, 1) := by decide +kernel
theorem dX4_deedAt_19 : decode cX4_deedAt 19 = .ok (.iaload, 1) := by decide +kernel
theorem dX4_deedAt_20 : decode cX4_deedAt 20 = .ok (.goto 4, 3) := by decide +kernel
theorem dX4_deedAt_23 : decode cX4_deedAt 23 = .ok (.iconst 5, 1) := by decide +kernel
theorem dX4_deedAt_24 : decode cX4_deedAt 24 = .ok (.ireturn, 1) := by decide +kernel
set_option maxRecDepth 20000 in
theorem ggX4_numberAt_X8_isIn : GoodIn wsX4_numberAt wsX8_isIn := goodIn_r _ [5] (by decide +kernel) (by decide +kernel)
set_option maxRecDepth 20000 in
theorem gX4_numberAt_X8_isIn_n22 : GoodIn wsX4_numberAt (wsX8_isIn) := ggX4_numberAt_X8_isIn
theorem dX4_numberAt_0 : decode cX4_numberAt 0 = .ok (.iload_n 1, 1) := by decide +kernel
theorem dX4_numberAt_1 : decode cX4_numberAt 1 = .ok (.iconst 0, 1) := by decide +kernel
theorem dX4_numberAt_2 : decode cX4_numberAt 2 = .ok (.aload_n 0, 1) := by decide +kernel
theorem dX4_numberAt_3 : decode cX4_numberAt 3 = .ok (.getfield 18, 3) := by decide +kernel
theorem dX4_numberAt_6 : decode cX4_numberAt 6 = .ok (.iconst 1, 1) := by decide +kernel
theorem dX4_numberAt_7 : decode cX4_numberAt 7 = .ok (.isub, 1) := by decide +kernel
theorem dX4_numberAt_8 : decode cX4_numberAt 8 = .ok (.invokestatic 22, 3) := by decide +kernel
theorem dX4_numberAt_11 : decode cX4_numberAt 11 = .ok (.ifCond .eq 12, 3) := by decide +kernel
theorem dX4_numberAt_14 : decode cX4_numberAt 14 = .ok (.aload_n 0, 1) := by decide +kernel
theorem dX4_numberAt_15 : decode cX4_numberAt 15 = .ok (.getfield 15, 3) := by decide +kernel
theorem dX4_numberAt_18 : decode cX4_numberAt 18 = .ok (.iload_n 1, 1) := by decide +kernel
theorem dX4_numberAt_19 : decode cX4_numberAt 19 = .ok (.iaload, 1) := by decide +kernel
theorem dX4_numberAt_20 : decode cX4_numberAt 20 = .ok (.goto 4, 3) := by decide +kernel
theorem dX4_numberAt_23 : decode cX4_numberAt 23 = .ok (.iconst 0, 1) := by decide +kernel
theorem dX4_numberAt_24 : decode cX4_numberAt 24 = .ok (.ireturn, 1) := by decide +kernel
theorem dX5_init_0 : decode cX5_init 0 = .ok (.aload_n 0, 1) := by decide +kernel
theorem dX5_init_1 : decode cX5_init 1 = .ok (.invokespecial 3, 3) := by decide +kernel
theorem dX5_init_4 : decode cX5_init 4 = .ok (.aload_n 0, 1) := by decide +kernel
theorem dX5_init_5 : decode cX5_init 5 = .ok (.bipush 120, 2) := by decide +kernel
theorem dX5_init_7 : decode cX5_init 7 = .ok (.newarray .int, 2) := by decide +kernel
theorem dX5_init_9 : decode cX5_init 9 = .ok (.putfield 9, 3) := by decide +kernel
theorem dX5_init_12 : decode cX5_init 12 = .ok (.aload_n 0, 1) := by decide +kernel
theorem dX5_init_13 : decode cX5_init 13 = .ok (.aload_n 1, 1) := by decide +kernel
theorem dX5_init_14 : decode cX5_init 14 = .ok (.putfield 15, 3) := by decide +kernel
theorem dX5_init_17 : decode cX5_init 17 = .ok (.aload_n 0, 1) := by decide +kernel
theorem dX5_init_18 : decode cX5_init 18 = .ok (.aload_n 2, 1) := by decide +kernel
theorem dX5_init_19 : decode cX5_init 19 = .ok (.putfield 19, 3) := by decide +kernel
theorem dX5_init_22 : decode cX5_init 22 = .ok (.return_, 1) := by decide +kernel
set_option maxRecDepth 20000 in
theorem ggX5_read_X5_accepts : GoodIn wsX5_read wsX5_accepts := goodIn_r _ [18, 8, 19, 20, 21, 17, 22, 23, 24, 25, 26, 27, 28, 29, 30, 31, 32, 33, 7, 34, 35, 36, 37, 12, 10, 38, 39, 40, 41, 42, 43, 44, 45, 46, 47, 48, 49, 50, 9, 51, 52, 53, 54, 55, 56, 57, 58, 59, 60, 61, 62, 63, 64, 65, 66, 67, 68, 69, 70, 71, 72, 4, 73, 74, 75, 76, 77, 11, 78, 79, 80, 81, 6, 1, 82, 83, 84, 85, 86, 87, 88, 89, 90, 91, 92, 93, 94, 95, 96, 97, 98, 99] (by decide +kernel) (by decide +kernel)
set_option maxRecDepth 20000 in
theorem gX5_read_X5_accepts : GoodIn wsX5_read (wsV RX5 51 RX5 yX5_accepts wsX5_accepts) := goodIn_app (goodIn_of _ (by decide +kernel)) ggX5_read_X5_accepts
theorem dX5_read_0 : decode cX5_read 0 = .ok (.aload_n 0, 1) := by decide +kernel
theorem dX5_read_1 : decode cX5_read 1 = .ok (.iload_n 1, 1) := by decide +kernel
theorem dX5_read_2 : decode cX5_read 2 = .ok (.aload_n 0, 1) := by decide +kernel
theorem dX5_read_3 : decode cX5_read 3 = .ok (.getfield 15, 3) := by decide +kernel
theorem dX5_read_6 : decode cX5_read 6 = .ok (.arraylength, 1) := by decide +kernel
theorem dX5_read_7 : decode cX5_read 7 = .ok (.invokestatic 23, 3) := by decide +kernel
theorem dX5_read_10 : decode cX5_read 10 = .ok (.putfield 29, 3) := by decide +kernel
theorem dX5_read_13 : decode cX5_read 13 = .ok (.aload_n 0, 1) := by decide +kernel
theorem dX5_read_14 : decode cX5_read 14 = .ok (.iconst 0, 1) := by decide +kernel
theorem dX5_read_15 : decode cX5_read 15 = .ok (.putfield 33, 3) := by decide +kernel
theorem dX5_read_18 : decode cX5_read 18 = .ok (.aload_n 0, 1) := by decide +kernel
theorem dX5_read_19 : decode cX5_read 19 = .ok (.iconst 0, 1) := by decide +kernel
theorem dX5_read_20 : decode cX5_read 20 = .ok (.putfield 36, 3) := by decide +kernel
theorem dX5_read_23 : decode cX5_read 23 = .ok (.aload_n 0, 1) := by decide +kernel
theorem dX5_read_24 : decode cX5_read 24 = .ok (.iconst 0, 1) := by decide +kernel
theorem dX5_read_25 : decode cX5_read 25 = .ok (.putfield 39, 3) := by decide +kernel
theorem dX5_read_28 : decode cX5_read 28 = .ok (.aload_n 0, 1) := by decide +kernel
theorem dX5_read_29 : decode cX5_read 29 = .ok (.iconst 0, 1) := by decide +kernel
theorem dX5_read_30 : decode cX5_read 30 = .ok (.putfield 42, 3) := by decide +kernel
theorem dX5_read_33 : decode cX5_read 33 = .ok (.aload_n 0, 1) := by decide +kernel
theorem dX5_read_34 : decode cX5_read 34 = .ok (.iconst 0, 1) := by decide +kernel
theorem dX5_read_35 : decode cX5_read 35 = .ok (.putfield 45, 3) := by decide +kernel
theorem dX5_read_38 : decode cX5_read 38 = .ok (.aload_n 0, 1) := by decide +kernel
theorem dX5_read_39 : decode cX5_read 39 = .ok (.getfield 19, 3) := by decide +kernel
theorem dX5_read_42 : decode cX5_read 42 = .ok (.iconst 0, 1) := by decide +kernel
theorem dX5_read_43 : decode cX5_read 43 = .ok (.putfield 48, 3) := by decide +kernel
theorem dX5_read_46 : decode cX5_read 46 = .ok (.iconst 0, 1) := by decide +kernel
theorem dX5_read_47 : decode cX5_read 47 = .ok (.istore_n 2, 1) := by decide +kernel
theorem dX5_read_48 : decode cX5_read 48 = .ok (.iload_n 2, 1) := by decide +kernel
theorem dX5_read_49 : decode cX5_read 49 = .ok (.bipush 120, 2) := by decide +kernel
theorem dX5_read_51 : decode cX5_read 51 = .ok (.if_icmp .ge 62, 3) := by decide +kernel
theorem dX5_read_54 : decode cX5_read 54 = .ok (.aload_n 0, 1) := by decide +kernel
theorem dX5_read_55 : decode cX5_read 55 = .ok (.getfield 33, 3) := by decide +kernel
theorem dX5_read_58 : decode cX5_read 58 = .ok (.aload_n 0, 1) := by decide +kernel
theorem dX5_read_59 : decode cX5_read 59 = .ok (.getfield 29, 3) := by decide +kernel
theorem dX5_read_62 : decode cX5_read 62 = .ok (.if_icmp .ge 51, 3) := by decide +kernel
theorem dX5_read_65 : decode cX5_read 65 = .ok (.aload_n 0, 1) := by decide +kernel
theorem dX5_read_66 : decode cX5_read 66 = .ok (.getfield 15, 3) := by decide +kernel
theorem dX5_read_69 : decode cX5_read 69 = .ok (.aload_n 0, 1) := by decide +kernel
theorem dX5_read_70 : decode cX5_read 70 = .ok (.getfield 33, 3) := by decide +kernel
theorem dX5_read_73 : decode cX5_read 73 = .ok (.baload, 1) := by decide +kernel
theorem dX5_read_74 : decode cX5_read 74 = .ok (.istore_n 3, 1) := by decide +kernel
theorem dX5_read_75 : decode cX5_read 75 = .ok (.iload_n 3, 1) := by decide +kernel
theorem dX5_read_76 : decode cX5_read 76 = .ok (.bipush 32, 2) := by decide +kernel
theorem dX5_read_78 : decode cX5_read 78 = .ok (.if_icmp .ne 16, 3) := by decide +kernel
theorem dX5_read_81 : decode cX5_read 81 = .ok (.aload_n 0, 1) := by decide +kernel
theorem dX5_read_82 : decode cX5_read 82 = .ok (.dup, 1) := by decide +kernel
theorem dX5_read_83 : decode cX5_read 83 = .ok (.getfield 33, 3) := by decide +kernel
theorem dX5_read_86 : decode cX5_read 86 = .ok (.iconst 1, 1) := by decide +kernel
theorem dX5_read_87 : decode cX5_read 87 = .ok (.iadd, 1) := by decide +kernel
theorem dX5_read_88 : decode cX5_read 88 = .ok (.putfield 33, 3) := by decide +kernel
theorem dX5_read_91 : decode cX5_read 91 = .ok (.goto 16, 3) := by decide +kernel
theorem dX5_read_94 : decode cX5_read 94 = .ok (.aload_n 0, 1) := by decide +kernel
theorem dX5_read_95 : decode cX5_read 95 = .ok (.iload_n 3, 1) := by decide +kernel
theorem dX5_read_96 : decode cX5_read 96 = .ok (.invokevirtual 51, 3) := by decide +kernel
theorem dX5_read_99 : decode cX5_read 99 = .ok (.ifCond .ne 8, 3) := by decide +kernel
theorem dX5_read_102 : decode cX5_read 102 = .ok (.aload_n 0, 1) := by decide +kernel
theorem dX5_read_103 : decode cX5_read 103 = .ok (.getfield 33, 3) := by decide +kernel
theorem dX5_read_106 : decode cX5_read 106 = .ok (.ireturn, 1) := by decide +kernel
theorem dX5_read_107 : decode cX5_read 107 = .ok (.iinc 2 1, 3) := by decide +kernel
theorem dX5_read_110 : decode cX5_read 110 = .ok (.goto (-62), 3) := by decide +kernel
theorem dX5_read_113 : decode cX5_read 113 = .ok (.aload_n 0, 1) := by decide +kernel
theorem dX5_read_114 : decode cX5_read 114 = .ok (.getfield 36, 3) := by decide +kernel
theorem dX5_read_117 : decode cX5_read 117 = .ok (.ifCond .ne 14, 3) := by decide +kernel
theorem dX5_read_120 : decode cX5_read 120 = .ok (.aload_n 0, 1) := by decide +kernel
theorem dX5_read_121 : decode cX5_read 121 = .ok (.getfield 45, 3) := by decide +kernel
theorem dX5_read_124 : decode cX5_read 124 = .ok (.ifCond .le 7, 3) := by decide +kernel
theorem dX5_read_127 : decode cX5_read 127 = .ok (.iconst (-1), 1) := by decide +kernel
theorem dX5_read_128 : decode cX5_read 128 = .ok (.goto 7, 3) := by decide +kernel
theorem dX5_read_131 : decode cX5_read 131 = .ok (.aload_n 0, 1) := by decide +kernel
theorem dX5_read_132 : decode cX5_read 132 = .ok (.getfield 29, 3) := by decide +kernel
theorem dX5_read_135 : decode cX5_read 135 = .ok (.ireturn, 1) := by decide +kernel
set_option maxRecDepth 20000 in
theorem ggX5_accepts_X5_acceptsTarget : GoodIn wsX5_accepts wsX5_acceptsTarget := goodIn_r _ [6, 7, 8, 9, 5, 10, 11, 12, 13, 14, 15, 16, 17, 18, 1, 78, 79, 80, 81, 82, 83, 84, 85, 86, 87, 88] (by decide +kernel) (by decide +kernel)
set_option maxRecDepth 20000 in
theorem gX5_accepts_X5_acceptsTarget : GoodIn wsX5_accepts (wsV RX5 55 RX5 yX5_acceptsTarget wsX5_acceptsTarget) := goodIn_app (goodIn_of _ (by decide +kernel)) ggX5_accepts_X5_acceptsTarget
set_option maxRecDepth 20000 in
theorem ggX5_accepts_X5_goOn : GoodIn wsX5_accepts wsX5_goOn := goodIn_r _ [17, 18, 1, 78, 79, 80, 81, 82, 83, 84, 85, 86, 87, 88] (by decide +kernel) (by decide +kernel)
set_option maxRecDepth 20000 in
theorem gX5_accepts_X5_goOn : GoodIn wsX5_accepts (wsV RX5 58 RX5 yX5_goOn wsX5_goOn) := goodIn_app (goodIn_of _ (by decide +kernel)) ggX5_accepts_X5_goOn
set_option maxRecDepth 20000 in
theorem ggX5_accepts_X5_acceptsAtom : GoodIn wsX5_accepts wsX5_acceptsAtom := goodIn_r _ [22, 23, 24, 25, 8, 9, 5, 10, 11, 12, 13, 26, 27, 28, 29, 30, 31, 32, 33, 14, 15, 16, 17, 18, 1, 34, 35, 36, 37, 38, 39, 78, 79, 80, 81, 82, 83, 84, 85, 86, 87, 88, 89, 90, 91] (by decide +kernel) (by decide +kernel)
set_option maxRecDepth 20000 in
theorem gX5_accepts_X5_acceptsAtom : GoodIn wsX5_accepts (wsV RX5 61 RX5 yX5_acceptsAtom wsX5_acceptsAtom) := goodIn_app (goodIn_of _ (by decide +kernel)) ggX5_accepts_X5_acceptsAtom
set_option maxRecDepth 20000 in
theorem ggX5_accepts_X5_acceptsSign : GoodIn wsX5_accepts wsX5_acceptsSign := goodIn_r _ [43, 44, 45, 46, 5, 47, 48, 49, 50, 51, 52, 53, 54, 38, 39, 23, 26, 27, 28, 29, 30, 31, 32, 33, 34, 35, 36, 37, 14, 15, 16, 17, 18, 1, 55, 56, 57, 58, 24, 59, 60, 61, 62, 63, 64, 65, 66, 7, 67, 78, 79, 80, 81, 82, 83, 84, 85, 86, 87, 88, 89, 90, 91] (by decide +kernel) (by decide +kernel)
set_option maxRecDepth 20000 in
theorem gX5_accepts_X5_acceptsSign : GoodIn wsX5_accepts (wsV RX5 64 RX5 yX5_acceptsSign wsX5_acceptsSign) := goodIn_app (goodIn_of _ (by decide +kernel)) ggX5_accepts_X5_acceptsSign
set_option maxRecDepth 20000 in
theorem ggX5_accepts_X5_acceptsNumber : GoodIn wsX5_accepts wsX5_acceptsNumber := goodIn_r _ [71, 18, 72, 73, 23, 25, 1, 11, 12, 13, 26, 27, 28, 29, 30, 31, 32, 33, 78, 79, 80, 81, 82, 83, 84, 85, 86, 87, 88, 89, 90, 91] (by decide +kernel) (by decide +kernel)
set_option maxRecDepth 20000 in
theorem gX5_accepts_X5_acceptsNumber : GoodIn wsX5_accepts (wsV RX5 67 RX5 yX5_acceptsNumber wsX5_acceptsNumber) := goodIn_app (goodIn_of _ (by decide +kernel)) ggX5_accepts_X5_acceptsNumber
set_option maxRecDepth 20000 in
theorem ggX5_accepts_X5_acceptsComma : GoodIn wsX5_accepts wsX5_acceptsComma := goodIn_r _ [77, 25, 14, 15, 16, 5, 17, 18, 1, 78, 79, 80, 81, 82, 83, 84, 85, 86, 87, 88] (by decide +kernel) (by decide +kernel)
set_option maxRecDepth 20000 in
theorem gX5_accepts_X5_acceptsComma : GoodIn wsX5_accepts (wsV RX5 70 RX5 yX5_acceptsComma wsX5_acceptsComma) := goodIn_app (goodIn_of _ (by decide +kernel)) ggX5_accepts_X5_acceptsComma
theorem dX5_accepts_0 : decode cX5_accepts 0 = .ok (.aload_n 0, 1) := by decide +kernel
theorem dX5_accepts_1 : decode cX5_accepts 1 = .ok (.getfield 36, 3) := by decide +kernel
theorem dX5_accepts_4 : decode cX5_accepts 4 = .ok (.tableswitch 104 0 5 #[40, 46, 66, 72, 78, 98], 40) := by decide +kernel
theorem dX5_accepts_44 : decode cX5_accepts 44 = .ok (.aload_n 0, 1) := by decide +kernel
theorem dX5_accepts_45 : decode cX5_accepts 45 = .ok (.iload_n 1, 1) := by decide +kernel
theorem dX5_accepts_46 : decode cX5_accepts 46 = .ok (.invokevirtual 55, 3) := by decide +kernel
theorem dX5_accepts_49 : decode cX5_accepts 49 = .ok (.ireturn, 1) := by decide +kernel
theorem dX5_accepts_50 : decode cX5_accepts 50 = .ok (.iload_n 1, 1) := by decide +kernel
theorem dX5_accepts_51 : decode cX5_accepts 51 = .ok (.bipush 61, 2) := by decide +kernel
theorem dX5_accepts_53 : decode cX5_accepts 53 = .ok (.if_icmp .ne 15, 3) := by decide +kernel
theorem dX5_accepts_56 : decode cX5_accepts 56 = .ok (.aload_n 0, 1) := by decide +kernel
theorem dX5_accepts_57 : decode cX5_accepts 57 = .ok (.iconst 2, 1) := by decide +kernel
theorem dX5_accepts_58 : decode cX5_accepts 58 = .ok (.invokevirtual 58, 3) := by decide +kernel
theorem dX5_accepts_61 : decode cX5_accepts 61 = .ok (.ifCond .eq 7, 3) := by decide +kernel
theorem dX5_accepts_64 : decode cX5_accepts 64 = .ok (.iconst 1, 1) := by decide +kernel
theorem dX5_accepts_65 : decode cX5_accepts 65 = .ok (.goto 4, 3) := by decide +kernel
theorem dX5_accepts_68 : decode cX5_accepts 68 = .ok (.iconst 0, 1) := by decide +kernel
theorem dX5_accepts_69 : decode cX5_accepts 69 = .ok (.ireturn, 1) := by decide +kernel
theorem dX5_accepts_70 : decode cX5_accepts 70 = .ok (.aload_n 0, 1) := by decide +kernel
theorem dX5_accepts_71 : decode cX5_accepts 71 = .ok (.iload_n 1, 1) := by decide +kernel
theorem dX5_accepts_72 : decode cX5_accepts 72 = .ok (.invokevirtual 61, 3) := by decide +kernel
theorem dX5_accepts_75 : decode cX5_accepts 75 = .ok (.ireturn, 1) := by decide +kernel
theorem dX5_accepts_76 : decode cX5_accepts 76 = .ok (.aload_n 0, 1) := by decide +kernel
theorem dX5_accepts_77 : decode cX5_accepts 77 = .ok (.iload_n 1, 1) := by decide +kernel
theorem dX5_accepts_78 : decode cX5_accepts 78 = .ok (.invokevirtual 64, 3) := by decide +kernel
theorem dX5_accepts_81 : decode cX5_accepts 81 = .ok (.ireturn, 1) := by decide +kernel
theorem dX5_accepts_82 : decode cX5_accepts 82 = .ok (.iload_n 1, 1) := by decide +kernel
theorem dX5_accepts_83 : decode cX5_accepts 83 = .ok (.bipush 125, 2) := by decide +kernel
theorem dX5_accepts_85 : decode cX5_accepts 85 = .ok (.if_icmp .ne 11, 3) := by decide +kernel
theorem dX5_accepts_88 : decode cX5_accepts 88 = .ok (.aload_n 0, 1) := by decide +kernel
theorem dX5_accepts_89 : decode cX5_accepts 89 = .ok (.iconst 3, 1) := by decide +kernel
theorem dX5_accepts_90 : decode cX5_accepts 90 = .ok (.invokevirtual 58, 3) := by decide +kernel
theorem dX5_accepts_93 : decode cX5_accepts 93 = .ok (.goto 8, 3) := by decide +kernel
theorem dX5_accepts_96 : decode cX5_accepts 96 = .ok (.aload_n 0, 1) := by decide +kernel
theorem dX5_accepts_97 : decode cX5_accepts 97 = .ok (.iload_n 1, 1) := by decide +kernel
theorem dX5_accepts_98 : decode cX5_accepts 98 = .ok (.invokevirtual 67, 3) := by decide +kernel
theorem dX5_accepts_101 : decode cX5_accepts 101 = .ok (.ireturn, 1) := by decide +kernel
theorem dX5_accepts_102 : decode cX5_accepts 102 = .ok (.aload_n 0, 1) := by decide +kernel
theorem dX5_accepts_103 : decode cX5_accepts 103 = .ok (.iload_n 1, 1) := by decide +kernel
theorem dX5_accepts_104 : decode cX5_accepts 104 = .ok (.invokevirtual 67, 3) := by decide +kernel
theorem dX5_accepts_107 : decode cX5_accepts 107 = .ok (.ireturn, 1) := by decide +kernel
theorem dX5_accepts_108 : decode cX5_accepts 108 = .ok (.aload_n 0, 1) := by decide +kernel
theorem dX5_accepts_109 : decode cX5_accepts 109 = .ok (.iload_n 1, 1) := by decide +kernel
theorem dX5_accepts_110 : decode cX5_accepts 110 = .ok (.invokevirtual 70, 3) := by decide +kernel
theorem dX5_accepts_113 : decode cX5_accepts 113 = .ok (.ireturn, 1) := by decide +kernel
theorem dX5_goOn_0 : decode cX5_goOn 0 = .ok (.aload_n 0, 1) := by decide +kernel
theorem dX5_goOn_1 : decode cX5_goOn 1 = .ok (.dup, 1) := by decide +kernel
theorem dX5_goOn_2 : decode cX5_goOn 2 = .ok (.getfield 33, 3) := by decide +kernel
theorem dX5_goOn_5 : decode cX5_goOn 5 = .ok (.iconst 1, 1) := by decide +kernel
theorem dX5_goOn_6 : decode cX5_goOn 6 = .ok (.iadd, 1) := by decide +kernel
theorem dX5_goOn_7 : decode cX5_goOn 7 = .ok (.putfield 33, 3) := by decide +kernel
theorem dX5_goOn_10 : decode cX5_goOn 10 = .ok (.aload_n 0, 1) := by decide +kernel
theorem dX5_goOn_11 : decode cX5_goOn 11 = .ok (.iload_n 1, 1) := by decide +kernel
theorem dX5_goOn_12 : decode cX5_goOn 12 = .ok (.putfield 36, 3) := by decide +kernel
theorem dX5_goOn_15 : decode cX5_goOn 15 = .ok (.iconst 1, 1) := by decide +kernel
theorem dX5_goOn_16 : decode cX5_goOn 16 = .ok (.ireturn, 1) := by decide +kernel
set_option maxRecDepth 20000 in
theorem ggX5_isLetter_X8_isIn : GoodIn wsX5_isLetter wsX8_isIn := goodIn_r _ [3] (by decide +kernel) (by decide +kernel)
set_option maxRecDepth 20000 in
theorem gX5_isLetter_X8_isIn_n73 : GoodIn wsX5_isLetter (wsX8_isIn) := ggX5_isLetter_X8_isIn
theorem dX5_isLetter_0 : decode cX5_isLetter 0 = .ok (.iload_n 0, 1) := by decide +kernel
theorem dX5_isLetter_1 : decode cX5_isLetter 1 = .ok (.bipush 97, 2) := by decide +kernel
theorem dX5_isLetter_3 : decode cX5_isLetter 3 = .ok (.bipush 102, 2) := by decide +kernel
theorem dX5_isLetter_5 : decode cX5_isLetter 5 = .ok (.invokestatic 73, 3) := by decide +kernel
theorem dX5_isLetter_8 : decode cX5_isLetter 8 = .ok (.ireturn, 1) := by decide +kernel
set_option maxRecDepth 20000 in
theorem ggX5_acceptsTarget_X5_isLetter : GoodIn wsX5_acceptsTarget wsX5_isLetter := goodIn_r _ [5, 6, 7, 8] (by decide +kernel) (by decide +kernel)
set_option maxRecDepth 20000 in
theorem gX5_acceptsTarget_X5_isLetter : GoodIn wsX5_acceptsTarget (va_wsS RX5 77 yX5_isLetter wsX5_isLetter) := goodIn_app (goodIn_of _ (by decide +kernel)) ggX5_acceptsTarget_X5_isLetter
set_option maxRecDepth 20000 in
theorem ggX5_acceptsTarget_X5_goOn : GoodIn wsX5_acceptsTarget wsX5_goOn := goodIn_r _ [12, 13, 14, 15, 16, 17, 18, 19, 20, 21, 22, 23, 24, 25] (by decide +kernel) (by decide +kernel)
set_option maxRecDepth 20000 in
theorem gX5_acceptsTarget_X5_goOn : GoodIn wsX5_acceptsTarget (wsV RX5 58 RX5 yX5_goOn wsX5_goOn) := goodIn_app (goodIn_of _ (by decide +kernel)) ggX5_acceptsTarget_X5_goOn
theorem dX5_acceptsTarget_0 : decode cX5_acceptsTarget 0 = .ok (.iload_n 1, 1) := by decide +kernel
theorem dX5_acceptsTarget_1 : decode cX5_acceptsTarget 1 = .ok (.invokestatic 77, 3) := by decide +kernel
theorem dX5_acceptsTarget_4 : decode cX5_acceptsTarget 4 = .ok (.ifCond .ne 5, 3) := by decide +kernel
theorem dX5_acceptsTarget_7 : decode cX5_acceptsTarget 7 = .ok (.iconst 0, 1) := by decide +kernel
theorem dX5_acceptsTarget_8 : decode cX5_acceptsTarget 8 = .ok (.ireturn, 1) := by decide +kernel
theorem dX5_acceptsTarget_9 : decode cX5_acceptsTarget 9 = .ok (.aload_n 0, 1) := by decide +kernel
theorem dX5_acceptsTarget_10 : decode cX5_acceptsTarget 10 = .ok (.iload_n 1, 1) := by decide +kernel
theorem dX5_acceptsTarget_11 : decode cX5_acceptsTarget 11 = .ok (.bipush 97, 2) := by decide +kernel
theorem dX5_acceptsTarget_13 : decode cX5_acceptsTarget 13 = .ok (.isub, 1) := by decide +kernel
theorem dX5_acceptsTarget_14 : decode cX5_acceptsTarget 14 = .ok (.putfield 80, 3) := by decide +kernel
theorem dX5_acceptsTarget_17 : decode cX5_acceptsTarget 17 = .ok (.aload_n 0, 1) := by decide +kernel
theorem dX5_acceptsTarget_18 : decode cX5_acceptsTarget 18 = .ok (.iconst 1, 1) := by decide +kernel
theorem dX5_acceptsTarget_19 : decode cX5_acceptsTarget 19 = .ok (.invokevirtual 58, 3) := by decide +kernel
theorem dX5_acceptsTarget_22 : decode cX5_acceptsTarget 22 = .ok (.ireturn, 1) := by decide +kernel
set_option maxRecDepth 20000 in
theorem ggX5_acceptsAtom_X5_isLetter : GoodIn wsX5_acceptsAtom wsX5_isLetter := goodIn_r _ [7, 8, 9, 10] (by decide +kernel) (by decide +kernel)
set_option maxRecDepth 20000 in
theorem gX5_acceptsAtom_X5_isLetter : GoodIn wsX5_acceptsAtom (va_wsS RX5 77 yX5_isLetter wsX5_isLetter) := goodIn_app (goodIn_of _ (by decide +kernel)) ggX5_acceptsAtom_X5_isLetter
set_option maxRecDepth 20000 in
theorem ggX5_acceptsAtom_X4_add : GoodIn wsX5_acceptsAtom wsX4_add := goodIn_r _ [15, 16, 17, 18, 42, 43, 44] (by decide +kernel) (by decide +kernel)
set_option maxRecDepth 20000 in
theorem gX5_acceptsAtom_X4_add : GoodIn wsX5_acceptsAtom (wsV RX5 83 RX4 yX4_add wsX4_add) := goodIn_app (goodIn_of _ (by decide +kernel)) ggX5_acceptsAtom_X4_add
set_option maxRecDepth 20000 in
theorem ggX5_acceptsAtom_X5_goOn : GoodIn wsX5_acceptsAtom wsX5_goOn := goodIn_r _ [22, 23, 24, 31, 32, 33, 34, 35, 36, 37, 38, 39, 40, 41] (by decide +kernel) (by decide +kernel)
set_option maxRecDepth 20000 in
theorem gX5_acceptsAtom_X5_goOn : GoodIn wsX5_acceptsAtom (wsV RX5 58 RX5 yX5_goOn wsX5_goOn) := goodIn_app (goodIn_of _ (by decide +kernel)) ggX5_acceptsAtom_X5_goOn
set_option maxRecDepth 20000 in
theorem ggX5_acceptsAtom_X5_letWait : GoodIn wsX5_acceptsAtom wsX5_letWait := goodIn_r _ [28, 29, 30, 31, 32, 33, 34, 35, 36, 37, 38, 39, 40, 41] (by decide +kernel) (by decide +kernel)
set_option maxRecDepth 20000 in
theorem gX5_acceptsAtom_X5_letWait : GoodIn wsX5_acceptsAtom (wsV RX5 87 RX5 yX5_letWait wsX5_letWait) := goodIn_app (goodIn_of _ (by decide +kernel)) ggX5_acceptsAtom_X5_letWait
theorem dX5_acceptsAtom_0 : decode cX5_acceptsAtom 0 = .ok (.iload_n 1, 1) := by decide +kernel
theorem dX5_acceptsAtom_1 : decode cX5_acceptsAtom 1 = .ok (.invokestatic 77, 3) := by decide +kernel
theorem dX5_acceptsAtom_4 : decode cX5_acceptsAtom 4 = .ok (.ifCond .eq 21, 3) := by decide +kernel
theorem dX5_acceptsAtom_7 : decode cX5_acceptsAtom 7 = .ok (.aload_n 0, 1) := by decide +kernel
theorem dX5_acceptsAtom_8 : decode cX5_acceptsAtom 8 = .ok (.getfield 19, 3) := by decide +kernel
theorem dX5_acceptsAtom_11 : decode cX5_acceptsAtom 11 = .ok (.iconst 4, 1) := by decide +kernel
theorem dX5_acceptsAtom_12 : decode cX5_acceptsAtom 12 = .ok (.iload_n 1, 1) := by decide +kernel
theorem dX5_acceptsAtom_13 : decode cX5_acceptsAtom 13 = .ok (.bipush 97, 2) := by decide +kernel
theorem dX5_acceptsAtom_15 : decode cX5_acceptsAtom 15 = .ok (.isub, 1) := by decide +kernel
theorem dX5_acceptsAtom_16 : decode cX5_acceptsAtom 16 = .ok (.invokevirtual 83, 3) := by decide +kernel
theorem dX5_acceptsAtom_19 : decode cX5_acceptsAtom 19 = .ok (.aload_n 0, 1) := by decide +kernel
theorem dX5_acceptsAtom_20 : decode cX5_acceptsAtom 20 = .ok (.iconst 3, 1) := by decide +kernel
theorem dX5_acceptsAtom_21 : decode cX5_acceptsAtom 21 = .ok (.invokevirtual 58, 3) := by decide +kernel
theorem dX5_acceptsAtom_24 : decode cX5_acceptsAtom 24 = .ok (.ireturn, 1) := by decide +kernel
theorem dX5_acceptsAtom_25 : decode cX5_acceptsAtom 25 = .ok (.iload_n 1, 1) := by decide +kernel
theorem dX5_acceptsAtom_26 : decode cX5_acceptsAtom 26 = .ok (.bipush 40, 2) := by decide +kernel
theorem dX5_acceptsAtom_28 : decode cX5_acceptsAtom 28 = .ok (.if_icmp .ne 24, 3) := by decide +kernel
theorem dX5_acceptsAtom_31 : decode cX5_acceptsAtom 31 = .ok (.aload_n 0, 1) := by decide +kernel
theorem dX5_acceptsAtom_32 : decode cX5_acceptsAtom 32 = .ok (.iconst (-1), 1) := by decide +kernel
theorem dX5_acceptsAtom_33 : decode cX5_acceptsAtom 33 = .ok (.invokevirtual 87, 3) := by decide +kernel
theorem dX5_acceptsAtom_36 : decode cX5_acceptsAtom 36 = .ok (.aload_n 0, 1) := by decide +kernel
theorem dX5_acceptsAtom_37 : decode cX5_acceptsAtom 37 = .ok (.dup, 1) := by decide +kernel
theorem dX5_acceptsAtom_38 : decode cX5_acceptsAtom 38 = .ok (.getfield 42, 3) := by decide +kernel
theorem dX5_acceptsAtom_41 : decode cX5_acceptsAtom 41 = .ok (.iconst 1, 1) := by decide +kernel
theorem dX5_acceptsAtom_42 : decode cX5_acceptsAtom 42 = .ok (.iadd, 1) := by decide +kernel
theorem dX5_acceptsAtom_43 : decode cX5_acceptsAtom 43 = .ok (.putfield 42, 3) := by decide +kernel
theorem dX5_acceptsAtom_46 : decode cX5_acceptsAtom 46 = .ok (.aload_n 0, 1) := by decide +kernel
theorem dX5_acceptsAtom_47 : decode cX5_acceptsAtom 47 = .ok (.iconst 2, 1) := by decide +kernel
theorem dX5_acceptsAtom_48 : decode cX5_acceptsAtom 48 = .ok (.invokevirtual 58, 3) := by decide +kernel
theorem dX5_acceptsAtom_51 : decode cX5_acceptsAtom 51 = .ok (.ireturn, 1) := by decide +kernel
theorem dX5_acceptsAtom_52 : decode cX5_acceptsAtom 52 = .ok (.iload_n 1, 1) := by decide +kernel
theorem dX5_acceptsAtom_53 : decode cX5_acceptsAtom 53 = .ok (.bipush 123, 2) := by decide +kernel
theorem dX5_acceptsAtom_55 : decode cX5_acceptsAtom 55 = .ok (.if_icmp .ne 23, 3) := by decide +kernel
theorem dX5_acceptsAtom_58 : decode cX5_acceptsAtom 58 = .ok (.aload_n 0, 1) := by decide +kernel
theorem dX5_acceptsAtom_59 : decode cX5_acceptsAtom 59 = .ok (.getfield 19, 3) := by decide +kernel
theorem dX5_acceptsAtom_62 : decode cX5_acceptsAtom 62 = .ok (.iconst 5, 1) := by decide +kernel
theorem dX5_acceptsAtom_63 : decode cX5_acceptsAtom 63 = .ok (.iconst 0, 1) := by decide +kernel
theorem dX5_acceptsAtom_64 : decode cX5_acceptsAtom 64 = .ok (.invokevirtual 83, 3) := by decide +kernel
theorem dX5_acceptsAtom_67 : decode cX5_acceptsAtom 67 = .ok (.aload_n 0, 1) := by decide +kernel
theorem dX5_acceptsAtom_68 : decode cX5_acceptsAtom 68 = .ok (.iconst 0, 1) := by decide +kernel
theorem dX5_acceptsAtom_69 : decode cX5_acceptsAtom 69 = .ok (.putfield 91, 3) := by decide +kernel
theorem dX5_acceptsAtom_72 : decode cX5_acceptsAtom 72 = .ok (.aload_n 0, 1) := by decide +kernel
theorem dX5_acceptsAtom_73 : decode cX5_acceptsAtom 73 = .ok (.iconst 4, 1) := by decide +kernel
theorem dX5_acceptsAtom_74 : decode cX5_acceptsAtom 74 = .ok (.invokevirtual 58, 3) := by decide +kernel
theorem dX5_acceptsAtom_77 : decode cX5_acceptsAtom 77 = .ok (.ireturn, 1) := by decide +kernel
theorem dX5_acceptsAtom_78 : decode cX5_acceptsAtom 78 = .ok (.iconst 0, 1) := by decide +kernel
theorem dX5_acceptsAtom_79 : decode cX5_acceptsAtom 79 = .ok (.ireturn, 1) := by decide +kernel
set_option maxRecDepth 20000 in
theorem ggX5_acceptsSign_X5_takesSign : GoodIn wsX5_acceptsSign wsX5_takesSign := goodIn_r _ [5, 6, 7, 4, 8, 9, 10, 11, 12, 13, 14, 15, 16, 17, 18, 19, 20, 21, 22, 23, 24, 25, 26, 27, 28, 29, 30, 31, 32, 33, 49, 50, 51, 52, 53, 54, 55, 56, 57, 58, 59, 60, 61, 62] (by decide +kernel) (by decide +kernel)
set_option maxRecDepth 20000 in
theorem gX5_acceptsSign_X5_takesSign : GoodIn wsX5_acceptsSign (wsV RX5 94 RX5 yX5_takesSign wsX5_takesSign) := goodIn_app (goodIn_of _ (by decide +kernel)) ggX5_acceptsSign_X5_takesSign
set_option maxRecDepth 20000 in
theorem ggX5_acceptsSign_X5_closesBracket : GoodIn wsX5_acceptsSign wsX5_closesBracket := goodIn_r _ [37, 38, 13, 39, 40, 41, 42, 6, 7, 4, 8, 9, 10, 11, 12, 14, 15, 16, 17, 18, 19, 20, 21, 22, 23, 28, 29, 30, 31, 32, 33, 49, 50, 51, 52, 53, 54, 55, 56, 57, 58, 59, 60, 61, 62] (by decide +kernel) (by decide +kernel)
set_option maxRecDepth 20000 in
theorem gX5_acceptsSign_X5_closesBracket : GoodIn wsX5_acceptsSign (wsV RX5 97 RX5 yX5_closesBracket wsX5_closesBracket) := goodIn_app (goodIn_of _ (by decide +kernel)) ggX5_acceptsSign_X5_closesBracket
set_option maxRecDepth 20000 in
theorem ggX5_acceptsSign_X5_endsSum : GoodIn wsX5_acceptsSign wsX5_endsSum := goodIn_r _ [46, 38, 15, 47, 48, 6, 7, 4, 8, 9, 10, 11, 12, 13, 14, 16, 17, 18, 19, 20, 21, 22, 23, 28, 29, 30, 31, 32, 33, 49, 50, 51, 52, 53, 54, 55, 56, 57, 58, 59, 60, 61, 62] (by decide +kernel) (by decide +kernel)
set_option maxRecDepth 20000 in
theorem gX5_acceptsSign_X5_endsSum : GoodIn wsX5_acceptsSign (wsV RX5 101 RX5 yX5_endsSum wsX5_endsSum) := goodIn_app (goodIn_of _ (by decide +kernel)) ggX5_acceptsSign_X5_endsSum
theorem dX5_acceptsSign_0 : decode cX5_acceptsSign 0 = .ok (.iload_n 1, 1) := by decide +kernel
theorem dX5_acceptsSign_1 : decode cX5_acceptsSign 1 = .ok (.lookupswitch 93 #[(38, 65), (41, 83), (43, 59), (45, 71), (59, 88), (94, 77)], 59) := by decide +kernel
theorem dX5_acceptsSign_60 : decode cX5_acceptsSign 60 = .ok (.aload_n 0, 1) := by decide +kernel
theorem dX5_acceptsSign_61 : decode cX5_acceptsSign 61 = .ok (.iconst 0, 1) := by decide +kernel
theorem dX5_acceptsSign_62 : decode cX5_acceptsSign 62 = .ok (.invokevirtual 94, 3) := by decide +kernel
theorem dX5_acceptsSign_65 : decode cX5_acceptsSign 65 = .ok (.ireturn, 1) := by decide +kernel
theorem dX5_acceptsSign_66 : decode cX5_acceptsSign 66 = .ok (.aload_n 0, 1) := by decide +kernel
theorem dX5_acceptsSign_67 : decode cX5_acceptsSign 67 = .ok (.iconst 1, 1) := by decide +kernel
theorem dX5_acceptsSign_68 : decode cX5_acceptsSign 68 = .ok (.invokevirtual 94, 3) := by decide +kernel
theorem dX5_acceptsSign_71 : decode cX5_acceptsSign 71 = .ok (.ireturn, 1) := by decide +kernel
theorem dX5_acceptsSign_72 : decode cX5_acceptsSign 72 = .ok (.aload_n 0, 1) := by decide +kernel
theorem dX5_acceptsSign_73 : decode cX5_acceptsSign 73 = .ok (.iconst 2, 1) := by decide +kernel
theorem dX5_acceptsSign_74 : decode cX5_acceptsSign 74 = .ok (.invokevirtual 94, 3) := by decide +kernel
theorem dX5_acceptsSign_77 : decode cX5_acceptsSign 77 = .ok (.ireturn, 1) := by decide +kernel
theorem dX5_acceptsSign_78 : decode cX5_acceptsSign 78 = .ok (.aload_n 0, 1) := by decide +kernel
theorem dX5_acceptsSign_79 : decode cX5_acceptsSign 79 = .ok (.iconst 3, 1) := by decide +kernel
theorem dX5_acceptsSign_80 : decode cX5_acceptsSign 80 = .ok (.invokevirtual 94, 3) := by decide +kernel
theorem dX5_acceptsSign_83 : decode cX5_acceptsSign 83 = .ok (.ireturn, 1) := by decide +kernel
theorem dX5_acceptsSign_84 : decode cX5_acceptsSign 84 = .ok (.aload_n 0, 1) := by decide +kernel
theorem dX5_acceptsSign_85 : decode cX5_acceptsSign 85 = .ok (.invokevirtual 97, 3) := by decide +kernel
theorem dX5_acceptsSign_88 : decode cX5_acceptsSign 88 = .ok (.ireturn, 1) := by decide +kernel
theorem dX5_acceptsSign_89 : decode cX5_acceptsSign 89 = .ok (.aload_n 0, 1) := by decide +kernel
theorem dX5_acceptsSign_90 : decode cX5_acceptsSign 90 = .ok (.invokevirtual 101, 3) := by decide +kernel
theorem dX5_acceptsSign_93 : decode cX5_acceptsSign 93 = .ok (.ireturn, 1) := by decide +kernel
theorem dX5_acceptsSign_94 : decode cX5_acceptsSign 94 = .ok (.iconst 0, 1) := by decide +kernel
theorem dX5_acceptsSign_95 : decode cX5_acceptsSign 95 = .ok (.ireturn, 1) := by decide +kernel
set_option maxRecDepth 20000 in
theorem ggX5_takesSign_X5_strength : GoodIn wsX5_takesSign wsX5_strength := goodIn_r _ [4] (by decide +kernel) (by decide +kernel)
set_option maxRecDepth 20000 in
theorem gX5_takesSign_X5_strength : GoodIn wsX5_takesSign (va_wsS RX5 104 yX5_strength wsX5_strength) := goodIn_app (goodIn_of _ (by decide +kernel)) ggX5_takesSign_X5_strength
set_option maxRecDepth 20000 in
theorem ggX5_takesSign_X5_writeWaiting : GoodIn wsX5_takesSign wsX5_writeWaiting := goodIn_r _ [8, 9, 10, 11, 1, 2, 3, 4, 12, 13, 14, 15, 16, 17, 18, 19, 30, 31, 32, 33, 34, 35, 36, 37, 38, 39, 40, 41, 42, 43] (by decide +kernel) (by decide +kernel)
set_option maxRecDepth 20000 in
theorem gX5_takesSign_X5_writeWaiting : GoodIn wsX5_takesSign (wsV RX5 108 RX5 yX5_writeWaiting wsX5_writeWaiting) := goodIn_app (goodIn_of _ (by decide +kernel)) ggX5_takesSign_X5_writeWaiting
set_option maxRecDepth 20000 in
theorem ggX5_takesSign_X5_letWait : GoodIn wsX5_takesSign wsX5_letWait := goodIn_r _ [23, 9, 10, 30, 31, 32, 33, 34, 35, 36, 37, 38, 39, 40] (by decide +kernel) (by decide +kernel)
set_option maxRecDepth 20000 in
theorem gX5_takesSign_X5_letWait : GoodIn wsX5_takesSign (wsV RX5 87 RX5 yX5_letWait wsX5_letWait) := goodIn_app (goodIn_of _ (by decide +kernel)) ggX5_takesSign_X5_letWait
set_option maxRecDepth 20000 in
theorem ggX5_takesSign_X5_goOn : GoodIn wsX5_takesSign wsX5_goOn := goodIn_r _ [27, 28, 29, 30, 31, 32, 33, 34, 35, 36, 37, 38, 39, 40] (by decide +kernel) (by decide +kernel)
set_option maxRecDepth 20000 in
theorem gX5_takesSign_X5_goOn : GoodIn wsX5_takesSign (wsV RX5 58 RX5 yX5_goOn wsX5_goOn) := goodIn_app (goodIn_of _ (by decide +kernel)) ggX5_takesSign_X5_goOn
theorem dX5_takesSign_0 : decode cX5_takesSign 0 = .ok (.aload_n 0, 1) := by decide +kernel
theorem dX5_takesSign_1 : decode cX5_takesSign 1 = .ok (.iload_n 1, 1) := by decide +kernel
theorem dX5_takesSign_2 : decode cX5_takesSign 2 = .ok (.invokestatic 104, 3) := by decide +kernel
theorem dX5_takesSign_5 : decode cX5_takesSign 5 = .ok (.invokevirtual 108, 3) := by decide +kernel
theorem dX5_takesSign_8 : decode cX5_takesSign 8 = .ok (.aload_n 0, 1) := by decide +kernel
theorem dX5_takesSign_9 : decode cX5_takesSign 9 = .ok (.iload_n 1, 1) := by decide +kernel
theorem dX5_takesSign_10 : decode cX5_takesSign 10 = .ok (.invokevirtual 87, 3) := by decide +kernel
theorem dX5_takesSign_13 : decode cX5_takesSign 13 = .ok (.aload_n 0, 1) := by decide +kernel
theorem dX5_takesSign_14 : decode cX5_takesSign 14 = .ok (.iconst 2, 1) := by decide +kernel
theorem dX5_takesSign_15 : decode cX5_takesSign 15 = .ok (.invokevirtual 58, 3) := by decide +kernel
theorem dX5_takesSign_18 : decode cX5_takesSign 18 = .ok (.ireturn, 1) := by decide +kernel
set_option maxRecDepth 20000 in
theorem ggX5_closesBracket_X5_strength : GoodIn wsX5_closesBracket wsX5_strength := goodIn_r _ [10] (by decide +kernel) (by decide +kernel)
set_option maxRecDepth 20000 in
theorem gX5_closesBracket_X5_strength : GoodIn wsX5_closesBracket (va_wsS RX5 104 yX5_strength wsX5_strength) := goodIn_app (goodIn_of _ (by decide +kernel)) ggX5_closesBracket_X5_strength
set_option maxRecDepth 20000 in
theorem ggX5_closesBracket_X5_writeWaiting : GoodIn wsX5_closesBracket wsX5_writeWaiting := goodIn_r _ [14, 2, 15, 16, 7, 8, 9, 10, 17, 18, 19, 20, 21, 22, 23, 24, 31, 32, 33, 34, 35, 36, 37, 38, 39, 40, 41, 42, 43, 44] (by decide +kernel) (by decide +kernel)
set_option maxRecDepth 20000 in
theorem gX5_closesBracket_X5_writeWaiting : GoodIn wsX5_closesBracket (wsV RX5 108 RX5 yX5_writeWaiting wsX5_writeWaiting) := goodIn_app (goodIn_of _ (by decide +kernel)) ggX5_closesBracket_X5_writeWaiting
set_option maxRecDepth 20000 in
theorem ggX5_closesBracket_X5_goOn : GoodIn wsX5_closesBracket wsX5_goOn := goodIn_r _ [28, 29, 30, 31, 32, 33, 34, 35, 36, 37, 38, 39, 40, 41] (by decide +kernel) (by decide +kernel)
set_option maxRecDepth 20000 in
theorem gX5_closesBracket_X5_goOn : GoodIn wsX5_closesBracket (wsV RX5 58 RX5 yX5_goOn wsX5_goOn) := goodIn_app (goodIn_of _ (by decide +kernel)) ggX5_closesBracket_X5_goOn
theorem dX5_closesBracket_0 : decode cX5_closesBracket 0 = .ok (.aload_n 0, 1) := by decide +kernel
theorem dX5_closesBracket_1 : decode cX5_closesBracket 1 = .ok (.getfield 42, 3) := by decide +kernel
theorem dX5_closesBracket_4 : decode cX5_closesBracket 4 = .ok (.ifCond .ne 5, 3) := by decide +kernel
theorem dX5_closesBracket_7 : decode cX5_closesBracket 7 = .ok (.iconst 0, 1) := by decide +kernel
theorem dX5_closesBracket_8 : decode cX5_closesBracket 8 = .ok (.ireturn, 1) := by decide +kernel
theorem dX5_closesBracket_9 : decode cX5_closesBracket 9 = .ok (.aload_n 0, 1) := by decide +kernel
theorem dX5_closesBracket_10 : decode cX5_closesBracket 10 = .ok (.iconst 0, 1) := by decide +kernel
theorem dX5_closesBracket_11 : decode cX5_closesBracket 11 = .ok (.invokestatic 104, 3) := by decide +kernel
theorem dX5_closesBracket_14 : decode cX5_closesBracket 14 = .ok (.invokevirtual 108, 3) := by decide +kernel
theorem dX5_closesBracket_17 : decode cX5_closesBracket 17 = .ok (.aload_n 0, 1) := by decide +kernel
theorem dX5_closesBracket_18 : decode cX5_closesBracket 18 = .ok (.aload_n 0, 1) := by decide +kernel
theorem dX5_closesBracket_19 : decode cX5_closesBracket 19 = .ok (.getfield 39, 3) := by decide +kernel
theorem dX5_closesBracket_22 : decode cX5_closesBracket 22 = .ok (.iconst 1, 1) := by decide +kernel
theorem dX5_closesBracket_23 : decode cX5_closesBracket 23 = .ok (.isub, 1) := by decide +kernel
theorem dX5_closesBracket_24 : decode cX5_closesBracket 24 = .ok (.iconst 0, 1) := by decide +kernel
theorem dX5_closesBracket_25 : decode cX5_closesBracket 25 = .ok (.invokestatic 111, 3) := by decide +kernel
theorem dX5_closesBracket_28 : decode cX5_closesBracket 28 = .ok (.putfield 39, 3) := by decide +kernel
theorem dX5_closesBracket_31 : decode cX5_closesBracket 31 = .ok (.aload_n 0, 1) := by decide +kernel
theorem dX5_closesBracket_32 : decode cX5_closesBracket 32 = .ok (.dup, 1) := by decide +kernel
theorem dX5_closesBracket_33 : decode cX5_closesBracket 33 = .ok (.getfield 42, 3) := by decide +kernel
theorem dX5_closesBracket_36 : decode cX5_closesBracket 36 = .ok (.iconst 1, 1) := by decide +kernel
theorem dX5_closesBracket_37 : decode cX5_closesBracket 37 = .ok (.isub, 1) := by decide +kernel
theorem dX5_closesBracket_38 : decode cX5_closesBracket 38 = .ok (.putfield 42, 3) := by decide +kernel
theorem dX5_closesBracket_41 : decode cX5_closesBracket 41 = .ok (.aload_n 0, 1) := by decide +kernel
theorem dX5_closesBracket_42 : decode cX5_closesBracket 42 = .ok (.iconst 3, 1) := by decide +kernel
theorem dX5_closesBracket_43 : decode cX5_closesBracket 43 = .ok (.invokevirtual 58, 3) := by decide +kernel
theorem dX5_closesBracket_46 : decode cX5_closesBracket 46 = .ok (.ireturn, 1) := by decide +kernel
set_option maxRecDepth 20000 in
theorem ggX5_endsSum_X5_strength : GoodIn wsX5_endsSum wsX5_strength := goodIn_r _ [8] (by decide +kernel) (by decide +kernel)
set_option maxRecDepth 20000 in
theorem gX5_endsSum_X5_strength : GoodIn wsX5_endsSum (va_wsS RX5 104 yX5_strength wsX5_strength) := goodIn_app (goodIn_of _ (by decide +kernel)) ggX5_endsSum_X5_strength
set_option maxRecDepth 20000 in
theorem ggX5_endsSum_X5_writeWaiting : GoodIn wsX5_endsSum wsX5_writeWaiting := goodIn_r _ [12, 13, 14, 2, 5, 6, 7, 8, 15, 16, 17, 18, 19, 20, 21, 22, 29, 30, 31, 32, 33, 34, 35, 36, 37, 38, 39, 40, 41, 42] (by decide +kernel) (by decide +kernel)
set_option maxRecDepth 20000 in
theorem gX5_endsSum_X5_writeWaiting : GoodIn wsX5_endsSum (wsV RX5 108 RX5 yX5_writeWaiting wsX5_writeWaiting) := goodIn_app (goodIn_of _ (by decide +kernel)) ggX5_endsSum_X5_writeWaiting
set_option maxRecDepth 20000 in
theorem ggX5_endsSum_X4_add : GoodIn wsX5_endsSum wsX4_add := goodIn_r _ [19, 20, 21, 22, 40, 41, 42] (by decide +kernel) (by decide +kernel)
set_option maxRecDepth 20000 in
theorem gX5_endsSum_X4_add : GoodIn wsX5_endsSum (wsV RX5 83 RX4 yX4_add wsX4_add) := goodIn_app (goodIn_of _ (by decide +kernel)) ggX5_endsSum_X4_add
set_option maxRecDepth 20000 in
theorem ggX5_endsSum_X5_goOn : GoodIn wsX5_endsSum wsX5_goOn := goodIn_r _ [26, 27, 28, 29, 30, 31, 32, 33, 34, 35, 36, 37, 38, 39] (by decide +kernel) (by decide +kernel)
set_option maxRecDepth 20000 in
theorem gX5_endsSum_X5_goOn : GoodIn wsX5_endsSum (wsV RX5 58 RX5 yX5_goOn wsX5_goOn) := goodIn_app (goodIn_of _ (by decide +kernel)) ggX5_endsSum_X5_goOn
theorem dX5_endsSum_0 : decode cX5_endsSum 0 = .ok (.aload_n 0, 1) := by decide +kernel
theorem dX5_endsSum_1 : decode cX5_endsSum 1 = .ok (.getfield 42, 3) := by decide +kernel
theorem dX5_endsSum_4 : decode cX5_endsSum 4 = .ok (.ifCond .le 5, 3) := by decide +kernel
theorem dX5_endsSum_7 : decode cX5_endsSum 7 = .ok (.iconst 0, 1) := by decide +kernel
theorem dX5_endsSum_8 : decode cX5_endsSum 8 = .ok (.ireturn, 1) := by decide +kernel
theorem dX5_endsSum_9 : decode cX5_endsSum 9 = .ok (.aload_n 0, 1) := by decide +kernel
theorem dX5_endsSum_10 : decode cX5_endsSum 10 = .ok (.iconst 0, 1) := by decide +kernel
theorem dX5_endsSum_11 : decode cX5_endsSum 11 = .ok (.invokestatic 104, 3) := by decide +kernel
theorem dX5_endsSum_14 : decode cX5_endsSum 14 = .ok (.invokevirtual 108, 3) := by decide +kernel
theorem dX5_endsSum_17 : decode cX5_endsSum 17 = .ok (.aload_n 0, 1) := by decide +kernel
theorem dX5_endsSum_18 : decode cX5_endsSum 18 = .ok (.getfield 19, 3) := by decide +kernel
theorem dX5_endsSum_21 : decode cX5_endsSum 21 = .ok (.bipush 7, 2) := by decide +kernel
theorem dX5_endsSum_23 : decode cX5_endsSum 23 = .ok (.aload_n 0, 1) := by decide +kernel
theorem dX5_endsSum_24 : decode cX5_endsSum 24 = .ok (.getfield 80, 3) := by decide +kernel
theorem dX5_endsSum_27 : decode cX5_endsSum 27 = .ok (.invokevirtual 83, 3) := by decide +kernel
theorem dX5_endsSum_30 : decode cX5_endsSum 30 = .ok (.aload_n 0, 1) := by decide +kernel
theorem dX5_endsSum_31 : decode cX5_endsSum 31 = .ok (.dup, 1) := by decide +kernel
theorem dX5_endsSum_32 : decode cX5_endsSum 32 = .ok (.getfield 45, 3) := by decide +kernel
theorem dX5_endsSum_35 : decode cX5_endsSum 35 = .ok (.iconst 1, 1) := by decide +kernel
theorem dX5_endsSum_36 : decode cX5_endsSum 36 = .ok (.iadd, 1) := by decide +kernel
theorem dX5_endsSum_37 : decode cX5_endsSum 37 = .ok (.putfield 45, 3) := by decide +kernel
theorem dX5_endsSum_40 : decode cX5_endsSum 40 = .ok (.aload_n 0, 1) := by decide +kernel
theorem dX5_endsSum_41 : decode cX5_endsSum 41 = .ok (.iconst 0, 1) := by decide +kernel
theorem dX5_endsSum_42 : decode cX5_endsSum 42 = .ok (.invokevirtual 58, 3) := by decide +kernel
theorem dX5_endsSum_45 : decode cX5_endsSum 45 = .ok (.ireturn, 1) := by decide +kernel
theorem dX5_strength_0 : decode cX5_strength 0 = .ok (.iload_n 0, 1) := by decide +kernel
theorem dX5_strength_1 : decode cX5_strength 1 = .ok (.iconst (-1), 1) := by decide +kernel
theorem dX5_strength_2 : decode cX5_strength 2 = .ok (.if_icmp .ne 7, 3) := by decide +kernel
theorem dX5_strength_5 : decode cX5_strength 5 = .ok (.iconst 0, 1) := by decide +kernel
theorem dX5_strength_6 : decode cX5_strength 6 = .ok (.goto 13, 3) := by decide +kernel
theorem dX5_strength_9 : decode cX5_strength 9 = .ok (.iload_n 0, 1) := by decide +kernel
theorem dX5_strength_10 : decode cX5_strength 10 = .ok (.iconst 1, 1) := by decide +kernel
theorem dX5_strength_11 : decode cX5_strength 11 = .ok (.if_icmp .ne 7, 3) := by decide +kernel
theorem dX5_strength_14 : decode cX5_strength 14 = .ok (.iconst 2, 1) := by decide +kernel
theorem dX5_strength_15 : decode cX5_strength 15 = .ok (.goto 4, 3) := by decide +kernel
theorem dX5_strength_18 : decode cX5_strength 18 = .ok (.iconst 1, 1) := by decide +kernel
theorem dX5_strength_19 : decode cX5_strength 19 = .ok (.ireturn, 1) := by decide +kernel
theorem dX5_letWait_0 : decode cX5_letWait 0 = .ok (.aload_n 0, 1) := by decide +kernel
theorem dX5_letWait_1 : decode cX5_letWait 1 = .ok (.getfield 39, 3) := by decide +kernel
theorem dX5_letWait_4 : decode cX5_letWait 4 = .ok (.bipush 120, 2) := by decide +kernel
theorem dX5_letWait_6 : decode cX5_letWait 6 = .ok (.if_icmp .ge 23, 3) := by decide +kernel
theorem dX5_letWait_9 : decode cX5_letWait 9 = .ok (.aload_n 0, 1) := by decide +kernel
theorem dX5_letWait_10 : decode cX5_letWait 10 = .ok (.getfield 9, 3) := by decide +kernel
theorem dX5_letWait_13 : decode cX5_letWait 13 = .ok (.aload_n 0, 1) := by decide +kernel
theorem dX5_letWait_14 : decode cX5_letWait 14 = .ok (.getfield 39, 3) := by decide +kernel
theorem dX5_letWait_17 : decode cX5_letWait 17 = .ok (.iload_n 1, 1) := by decide +kernel
theorem dX5_letWait_18 : decode cX5_letWait 18 = .ok (.iastore, 1) := by decide +kernel
theorem dX5_letWait_19 : decode cX5_letWait 19 = .ok (.aload_n 0, 1) := by decide +kernel
theorem dX5_letWait_20 : decode cX5_letWait 20 = .ok (.dup, 1) := by decide +kernel
theorem dX5_letWait_21 : decode cX5_letWait 21 = .ok (.getfield 39, 3) := by decide +kernel
theorem dX5_letWait_24 : decode cX5_letWait 24 = .ok (.iconst 1, 1) := by decide +kernel
theorem dX5_letWait_25 : decode cX5_letWait 25 = .ok (.iadd, 1) := by decide +kernel
theorem dX5_letWait_26 : decode cX5_letWait 26 = .ok (.putfield 39, 3) := by decide +kernel
theorem dX5_letWait_29 : decode cX5_letWait 29 = .ok (.return_, 1) := by decide +kernel
set_option maxRecDepth 20000 in
theorem ggX5_writeWaiting_X5_strength : GoodIn wsX5_writeWaiting wsX5_strength := goodIn_r _ [7] (by decide +kernel) (by decide +kernel)
set_option maxRecDepth 20000 in
theorem gX5_writeWaiting_X5_strength : GoodIn wsX5_writeWaiting (va_wsS RX5 104 yX5_strength wsX5_strength) := goodIn_app (goodIn_of _ (by decide +kernel)) ggX5_writeWaiting_X5_strength
set_option maxRecDepth 20000 in
theorem ggX5_writeWaiting_X4_add : GoodIn wsX5_writeWaiting wsX4_add := goodIn_r _ [12, 13, 14, 15, 27, 28, 29] (by decide +kernel) (by decide +kernel)
set_option maxRecDepth 20000 in
theorem gX5_writeWaiting_X4_add : GoodIn wsX5_writeWaiting (wsV RX5 83 RX4 yX4_add wsX4_add) := goodIn_app (goodIn_of _ (by decide +kernel)) ggX5_writeWaiting_X4_add
theorem dX5_writeWaiting_0 : decode cX5_writeWaiting 0 = .ok (.aload_n 0, 1) := by decide +kernel
theorem dX5_writeWaiting_1 : decode cX5_writeWaiting 1 = .ok (.getfield 39, 3) := by decide +kernel
theorem dX5_writeWaiting_4 : decode cX5_writeWaiting 4 = .ok (.ifCond .le 51, 3) := by decide +kernel
theorem dX5_writeWaiting_7 : decode cX5_writeWaiting 7 = .ok (.aload_n 0, 1) := by decide +kernel
theorem dX5_writeWaiting_8 : decode cX5_writeWaiting 8 = .ok (.getfield 9, 3) := by decide +kernel
theorem dX5_writeWaiting_11 : decode cX5_writeWaiting 11 = .ok (.aload_n 0, 1) := by decide +kernel
theorem dX5_writeWaiting_12 : decode cX5_writeWaiting 12 = .ok (.getfield 39, 3) := by decide +kernel
theorem dX5_writeWaiting_15 : decode cX5_writeWaiting 15 = .ok (.iconst 1, 1) := by decide +kernel
theorem dX5_writeWaiting_16 : decode cX5_writeWaiting 16 = .ok (.isub, 1) := by decide +kernel
theorem dX5_writeWaiting_17 : decode cX5_writeWaiting 17 = .ok (.iaload, 1) := by decide +kernel
theorem dX5_writeWaiting_18 : decode cX5_writeWaiting 18 = .ok (.invokestatic 104, 3) := by decide +kernel
theorem dX5_writeWaiting_21 : decode cX5_writeWaiting 21 = .ok (.iload_n 1, 1) := by decide +kernel
theorem dX5_writeWaiting_22 : decode cX5_writeWaiting 22 = .ok (.if_icmp .lt 33, 3) := by decide +kernel
theorem dX5_writeWaiting_25 : decode cX5_writeWaiting 25 = .ok (.aload_n 0, 1) := by decide +kernel
theorem dX5_writeWaiting_26 : decode cX5_writeWaiting 26 = .ok (.dup, 1) := by decide +kernel
theorem dX5_writeWaiting_27 : decode cX5_writeWaiting 27 = .ok (.getfield 39, 3) := by decide +kernel
theorem dX5_writeWaiting_30 : decode cX5_writeWaiting 30 = .ok (.iconst 1, 1) := by decide +kernel
theorem dX5_writeWaiting_31 : decode cX5_writeWaiting 31 = .ok (.isub, 1) := by decide +kernel
theorem dX5_writeWaiting_32 : decode cX5_writeWaiting 32 = .ok (.putfield 39, 3) := by decide +kernel
theorem dX5_writeWaiting_35 : decode cX5_writeWaiting 35 = .ok (.aload_n 0, 1) := by decide +kernel
theorem dX5_writeWaiting_36 : decode cX5_writeWaiting 36 = .ok (.getfield 19, 3) := by decide +kernel
theorem dX5_writeWaiting_39 : decode cX5_writeWaiting 39 = .ok (.aload_n 0, 1) := by decide +kernel
theorem dX5_writeWaiting_40 : decode cX5_writeWaiting 40 = .ok (.getfield 9, 3) := by decide +kernel
theorem dX5_writeWaiting_43 : decode cX5_writeWaiting 43 = .ok (.aload_n 0, 1) := by decide +kernel
theorem dX5_writeWaiting_44 : decode cX5_writeWaiting 44 = .ok (.getfield 39, 3) := by decide +kernel
theorem dX5_writeWaiting_47 : decode cX5_writeWaiting 47 = .ok (.iaload, 1) := by decide +kernel
theorem dX5_writeWaiting_48 : decode cX5_writeWaiting 48 = .ok (.iconst 0, 1) := by decide +kernel
theorem dX5_writeWaiting_49 : decode cX5_writeWaiting 49 = .ok (.invokevirtual 83, 3) := by decide +kernel
theorem dX5_writeWaiting_52 : decode cX5_writeWaiting 52 = .ok (.goto (-52), 3) := by decide +kernel
theorem dX5_writeWaiting_55 : decode cX5_writeWaiting 55 = .ok (.return_, 1) := by decide +kernel
set_option maxRecDepth 20000 in
theorem ggX5_acceptsNumber_X8_isIn : GoodIn wsX5_acceptsNumber wsX8_isIn := goodIn_r _ [9] (by decide +kernel) (by decide +kernel)
set_option maxRecDepth 20000 in
theorem gX5_acceptsNumber_X8_isIn_n73 : GoodIn wsX5_acceptsNumber (wsX8_isIn) := ggX5_acceptsNumber_X8_isIn
set_option maxRecDepth 20000 in
theorem ggX5_acceptsNumber_X4_add : GoodIn wsX5_acceptsNumber wsX4_add := goodIn_r _ [14, 15, 16, 17, 29, 30, 31] (by decide +kernel) (by decide +kernel)
set_option maxRecDepth 20000 in
theorem gX5_acceptsNumber_X4_add : GoodIn wsX5_acceptsNumber (wsV RX5 83 RX4 yX4_add wsX4_add) := goodIn_app (goodIn_of _ (by decide +kernel)) ggX5_acceptsNumber_X4_add
theorem dX5_acceptsNumber_0 : decode cX5_acceptsNumber 0 = .ok (.iload_n 1, 1) := by decide +kernel
theorem dX5_acceptsNumber_1 : decode cX5_acceptsNumber 1 = .ok (.bipush 45, 2) := by decide +kernel
theorem dX5_acceptsNumber_3 : decode cX5_acceptsNumber 3 = .ok (.if_icmp .ne 12, 3) := by decide +kernel
theorem dX5_acceptsNumber_6 : decode cX5_acceptsNumber 6 = .ok (.aload_n 0, 1) := by decide +kernel
theorem dX5_acceptsNumber_7 : decode cX5_acceptsNumber 7 = .ok (.getfield 33, 3) := by decide +kernel
theorem dX5_acceptsNumber_10 : decode cX5_acceptsNumber 10 = .ok (.iconst 1, 1) := by decide +kernel
theorem dX5_acceptsNumber_11 : decode cX5_acceptsNumber 11 = .ok (.iadd, 1) := by decide +kernel
theorem dX5_acceptsNumber_12 : decode cX5_acceptsNumber 12 = .ok (.goto 7, 3) := by decide +kernel
theorem dX5_acceptsNumber_15 : decode cX5_acceptsNumber 15 = .ok (.aload_n 0, 1) := by decide +kernel
theorem dX5_acceptsNumber_16 : decode cX5_acceptsNumber 16 = .ok (.getfield 33, 3) := by decide +kernel
theorem dX5_acceptsNumber_19 : decode cX5_acceptsNumber 19 = .ok (.istore_n 2, 1) := by decide +kernel
theorem dX5_acceptsNumber_20 : decode cX5_acceptsNumber 20 = .ok (.iload_n 2, 1) := by decide +kernel
theorem dX5_acceptsNumber_21 : decode cX5_acceptsNumber 21 = .ok (.istore_n 3, 1) := by decide +kernel
theorem dX5_acceptsNumber_22 : decode cX5_acceptsNumber 22 = .ok (.iconst 0, 1) := by decide +kernel
theorem dX5_acceptsNumber_23 : decode cX5_acceptsNumber 23 = .ok (.istore 4, 2) := by decide +kernel
theorem dX5_acceptsNumber_25 : decode cX5_acceptsNumber 25 = .ok (.iload_n 3, 1) := by decide +kernel
theorem dX5_acceptsNumber_26 : decode cX5_acceptsNumber 26 = .ok (.aload_n 0, 1) := by decide +kernel
theorem dX5_acceptsNumber_27 : decode cX5_acceptsNumber 27 = .ok (.getfield 29, 3) := by decide +kernel
theorem dX5_acceptsNumber_30 : decode cX5_acceptsNumber 30 = .ok (.if_icmp .ge 54, 3) := by decide +kernel
theorem dX5_acceptsNumber_33 : decode cX5_acceptsNumber 33 = .ok (.aload_n 0, 1) := by decide +kernel
theorem dX5_acceptsNumber_34 : decode cX5_acceptsNumber 34 = .ok (.getfield 15, 3) := by decide +kernel
theorem dX5_acceptsNumber_37 : decode cX5_acceptsNumber 37 = .ok (.iload_n 3, 1) := by decide +kernel
theorem dX5_acceptsNumber_38 : decode cX5_acceptsNumber 38 = .ok (.baload, 1) := by decide +kernel
theorem dX5_acceptsNumber_39 : decode cX5_acceptsNumber 39 = .ok (.bipush 48, 2) := by decide +kernel
theorem dX5_acceptsNumber_41 : decode cX5_acceptsNumber 41 = .ok (.bipush 57, 2) := by decide +kernel
theorem dX5_acceptsNumber_43 : decode cX5_acceptsNumber 43 = .ok (.invokestatic 73, 3) := by decide +kernel
theorem dX5_acceptsNumber_46 : decode cX5_acceptsNumber 46 = .ok (.ifCond .eq 38, 3) := by decide +kernel
theorem dX5_acceptsNumber_49 : decode cX5_acceptsNumber 49 = .ok (.iload_n 3, 1) := by decide +kernel
theorem dX5_acceptsNumber_50 : decode cX5_acceptsNumber 50 = .ok (.iload_n 2, 1) := by decide +kernel
theorem dX5_acceptsNumber_51 : decode cX5_acceptsNumber 51 = .ok (.isub, 1) := by decide +kernel
theorem dX5_acceptsNumber_52 : decode cX5_acceptsNumber 52 = .ok (.iconst 3, 1) := by decide +kernel
theorem dX5_acceptsNumber_53 : decode cX5_acceptsNumber 53 = .ok (.if_icmp .ge 21, 3) := by decide +kernel
theorem dX5_acceptsNumber_56 : decode cX5_acceptsNumber 56 = .ok (.iload 4, 2) := by decide +kernel
theorem dX5_acceptsNumber_58 : decode cX5_acceptsNumber 58 = .ok (.bipush 10, 2) := by decide +kernel
theorem dX5_acceptsNumber_60 : decode cX5_acceptsNumber 60 = .ok (.imul, 1) := by decide +kernel
theorem dX5_acceptsNumber_61 : decode cX5_acceptsNumber 61 = .ok (.aload_n 0, 1) := by decide +kernel
theorem dX5_acceptsNumber_62 : decode cX5_acceptsNumber 62 = .ok (.getfield 15, 3) := by decide +kernel
theorem dX5_acceptsNumber_65 : decode cX5_acceptsNumber 65 = .ok (.iload_n 3, 1) := by decide +kernel
theorem dX5_acceptsNumber_66 : decode cX5_acceptsNumber 66 = .ok (.baload, 1) := by decide +kernel
theorem dX5_acceptsNumber_67 : decode cX5_acceptsNumber 67 = .ok (.iadd, 1) := by decide +kernel
theorem dX5_acceptsNumber_68 : decode cX5_acceptsNumber 68 = .ok (.bipush 48, 2) := by decide +kernel
theorem dX5_acceptsNumber_70 : decode cX5_acceptsNumber 70 = .ok (.isub, 1) := by decide +kernel
theorem dX5_acceptsNumber_71 : decode cX5_acceptsNumber 71 = .ok (.goto 5, 3) := by decide +kernel
theorem dX5_acceptsNumber_74 : decode cX5_acceptsNumber 74 = .ok (.iload 4, 2) := by decide +kernel
theorem dX5_acceptsNumber_76 : decode cX5_acceptsNumber 76 = .ok (.istore 4, 2) := by decide +kernel
theorem dX5_acceptsNumber_78 : decode cX5_acceptsNumber 78 = .ok (.iinc 3 1, 3) := by decide +kernel
theorem dX5_acceptsNumber_81 : decode cX5_acceptsNumber 81 = .ok (.goto (-56), 3) := by decide +kernel
theorem dX5_acceptsNumber_84 : decode cX5_acceptsNumber 84 = .ok (.iload_n 3, 1) := by decide +kernel
theorem dX5_acceptsNumber_85 : decode cX5_acceptsNumber 85 = .ok (.iload_n 2, 1) := by decide +kernel
theorem dX5_acceptsNumber_86 : decode cX5_acceptsNumber 86 = .ok (.isub, 1) := by decide +kernel
theorem dX5_acceptsNumber_87 : decode cX5_acceptsNumber 87 = .ok (.iconst 1, 1) := by decide +kernel
theorem dX5_acceptsNumber_88 : decode cX5_acceptsNumber 88 = .ok (.iconst 3, 1) := by decide +kernel
theorem dX5_acceptsNumber_89 : decode cX5_acceptsNumber 89 = .ok (.invokestatic 73, 3) := by decide +kernel
theorem dX5_acceptsNumber_92 : decode cX5_acceptsNumber 92 = .ok (.ifCond .eq 11, 3) := by decide +kernel
theorem dX5_acceptsNumber_95 : decode cX5_acceptsNumber 95 = .ok (.iload 4, 2) := by decide +kernel
theorem dX5_acceptsNumber_97 : decode cX5_acceptsNumber 97 = .ok (.sipush 500, 3) := by decide +kernel
theorem dX5_acceptsNumber_100 : decode cX5_acceptsNumber 100 = .ok (.if_icmp .le 5, 3) := by decide +kernel
theorem dX5_acceptsNumber_103 : decode cX5_acceptsNumber 103 = .ok (.iconst 0, 1) := by decide +kernel
theorem dX5_acceptsNumber_104 : decode cX5_acceptsNumber 104 = .ok (.ireturn, 1) := by decide +kernel
theorem dX5_acceptsNumber_105 : decode cX5_acceptsNumber 105 = .ok (.aload_n 0, 1) := by decide +kernel
theorem dX5_acceptsNumber_106 : decode cX5_acceptsNumber 106 = .ok (.getfield 19, 3) := by decide +kernel
theorem dX5_acceptsNumber_109 : decode cX5_acceptsNumber 109 = .ok (.bipush 6, 2) := by decide +kernel
theorem dX5_acceptsNumber_111 : decode cX5_acceptsNumber 111 = .ok (.iload_n 1, 1) := by decide +kernel
theorem dX5_acceptsNumber_112 : decode cX5_acceptsNumber 112 = .ok (.bipush 45, 2) := by decide +kernel
theorem dX5_acceptsNumber_114 : decode cX5_acceptsNumber 114 = .ok (.if_icmp .ne 9, 3) := by decide +kernel
theorem dX5_acceptsNumber_117 : decode cX5_acceptsNumber 117 = .ok (.iload 4, 2) := by decide +kernel
theorem dX5_acceptsNumber_119 : decode cX5_acceptsNumber 119 = .ok (.ineg, 1) := by decide +kernel
theorem dX5_acceptsNumber_120 : decode cX5_acceptsNumber 120 = .ok (.goto 5, 3) := by decide +kernel
theorem dX5_acceptsNumber_123 : decode cX5_acceptsNumber 123 = .ok (.iload 4, 2) := by decide +kernel
theorem dX5_acceptsNumber_125 : decode cX5_acceptsNumber 125 = .ok (.invokevirtual 83, 3) := by decide +kernel
theorem dX5_acceptsNumber_128 : decode cX5_acceptsNumber 128 = .ok (.aload_n 0, 1) := by decide +kernel
theorem dX5_acceptsNumber_129 : decode cX5_acceptsNumber 129 = .ok (.dup, 1) := by decide +kernel
theorem dX5_acceptsNumber_130 : decode cX5_acceptsNumber 130 = .ok (.getfield 91, 3) := by decide +kernel
theorem dX5_acceptsNumber_133 : decode cX5_acceptsNumber 133 = .ok (.iconst 1, 1) := by decide +kernel
theorem dX5_acceptsNumber_134 : decode cX5_acceptsNumber 134 = .ok (.iadd, 1) := by decide +kernel
theorem dX5_acceptsNumber_135 : decode cX5_acceptsNumber 135 = .ok (.putfield 91, 3) := by decide +kernel
theorem dX5_acceptsNumber_138 : decode cX5_acceptsNumber 138 = .ok (.aload_n 0, 1) := by decide +kernel
theorem dX5_acceptsNumber_139 : decode cX5_acceptsNumber 139 = .ok (.iload_n 3, 1) := by decide +kernel
theorem dX5_acceptsNumber_140 : decode cX5_acceptsNumber 140 = .ok (.putfield 33, 3) := by decide +kernel
theorem dX5_acceptsNumber_143 : decode cX5_acceptsNumber 143 = .ok (.aload_n 0, 1) := by decide +kernel
theorem dX5_acceptsNumber_144 : decode cX5_acceptsNumber 144 = .ok (.bipush 6, 2) := by decide +kernel
theorem dX5_acceptsNumber_146 : decode cX5_acceptsNumber 146 = .ok (.putfield 36, 3) := by decide +kernel
theorem dX5_acceptsNumber_149 : decode cX5_acceptsNumber 149 = .ok (.iconst 1, 1) := by decide +kernel
theorem dX5_acceptsNumber_150 : decode cX5_acceptsNumber 150 = .ok (.ireturn, 1) := by decide +kernel
set_option maxRecDepth 20000 in
theorem ggX5_acceptsComma_X5_goOn : GoodIn wsX5_acceptsComma wsX5_goOn := goodIn_r _ [6, 7, 8, 9, 10, 11, 12, 13, 14, 15, 16, 17, 18, 19] (by decide +kernel) (by decide +kernel)
set_option maxRecDepth 20000 in
theorem gX5_acceptsComma_X5_goOn : GoodIn wsX5_acceptsComma (wsV RX5 58 RX5 yX5_goOn wsX5_goOn) := goodIn_app (goodIn_of _ (by decide +kernel)) ggX5_acceptsComma_X5_goOn
theorem dX5_acceptsComma_0 : decode cX5_acceptsComma 0 = .ok (.iload_n 1, 1) := by decide +kernel
theorem dX5_acceptsComma_1 : decode cX5_acceptsComma 1 = .ok (.bipush 125, 2) := by decide +kernel
theorem dX5_acceptsComma_3 : decode cX5_acceptsComma 3 = .ok (.if_icmp .ne 9, 3) := by decide +kernel
theorem dX5_acceptsComma_6 : decode cX5_acceptsComma 6 = .ok (.aload_n 0, 1) := by decide +kernel
theorem dX5_acceptsComma_7 : decode cX5_acceptsComma 7 = .ok (.iconst 3, 1) := by decide +kernel
theorem dX5_acceptsComma_8 : decode cX5_acceptsComma 8 = .ok (.invokevirtual 58, 3) := by decide +kernel
theorem dX5_acceptsComma_11 : decode cX5_acceptsComma 11 = .ok (.ireturn, 1) := by decide +kernel
theorem dX5_acceptsComma_12 : decode cX5_acceptsComma 12 = .ok (.iload_n 1, 1) := by decide +kernel
theorem dX5_acceptsComma_13 : decode cX5_acceptsComma 13 = .ok (.bipush 44, 2) := by decide +kernel
theorem dX5_acceptsComma_15 : decode cX5_acceptsComma 15 = .ok (.if_icmp .ne 24, 3) := by decide +kernel
theorem dX5_acceptsComma_18 : decode cX5_acceptsComma 18 = .ok (.aload_n 0, 1) := by decide +kernel
theorem dX5_acceptsComma_19 : decode cX5_acceptsComma 19 = .ok (.getfield 91, 3) := by decide +kernel
theorem dX5_acceptsComma_22 : decode cX5_acceptsComma 22 = .ok (.bipush 8, 2) := by decide +kernel
theorem dX5_acceptsComma_24 : decode cX5_acceptsComma 24 = .ok (.if_icmp .ge 15, 3) := by decide +kernel
theorem dX5_acceptsComma_27 : decode cX5_acceptsComma 27 = .ok (.aload_n 0, 1) := by decide +kernel
theorem dX5_acceptsComma_28 : decode cX5_acceptsComma 28 = .ok (.iconst 5, 1) := by decide +kernel
theorem dX5_acceptsComma_29 : decode cX5_acceptsComma 29 = .ok (.invokevirtual 58, 3) := by decide +kernel
theorem dX5_acceptsComma_32 : decode cX5_acceptsComma 32 = .ok (.ifCond .eq 7, 3) := by decide +kernel
theorem dX5_acceptsComma_35 : decode cX5_acceptsComma 35 = .ok (.iconst 1, 1) := by decide +kernel
theorem dX5_acceptsComma_36 : decode cX5_acceptsComma 36 = .ok (.goto 4, 3) := by decide +kernel
theorem dX5_acceptsComma_39 : decode cX5_acceptsComma 39 = .ok (.iconst 0, 1) := by decide +kernel
theorem dX5_acceptsComma_40 : decode cX5_acceptsComma 40 = .ok (.ireturn, 1) := by decide +kernel
theorem dX6_init_0 : decode cX6_init 0 = .ok (.aload_n 0, 1) := by decide +kernel
theorem dX6_init_1 : decode cX6_init 1 = .ok (.invokespecial 3, 3) := by decide +kernel
theorem dX6_init_4 : decode cX6_init 4 = .ok (.aload_n 0, 1) := by decide +kernel
theorem dX6_init_5 : decode cX6_init 5 = .ok (.sipush 200, 3) := by decide +kernel
theorem dX6_init_8 : decode cX6_init 8 = .ok (.newarray .int, 2) := by decide +kernel
theorem dX6_init_10 : decode cX6_init 10 = .ok (.putfield 9, 3) := by decide +kernel
theorem dX6_init_13 : decode cX6_init 13 = .ok (.aload_n 0, 1) := by decide +kernel
theorem dX6_init_14 : decode cX6_init 14 = .ok (.sipush 200, 3) := by decide +kernel
theorem dX6_init_17 : decode cX6_init 17 = .ok (.newarray .int, 2) := by decide +kernel
theorem dX6_init_19 : decode cX6_init 19 = .ok (.putfield 15, 3) := by decide +kernel
theorem dX6_init_22 : decode cX6_init 22 = .ok (.return_, 1) := by decide +kernel
theorem dX6_empty_0 : decode cX6_empty 0 = .ok (.aload_n 0, 1) := by decide +kernel
theorem dX6_empty_1 : decode cX6_empty 1 = .ok (.iconst 0, 1) := by decide +kernel
theorem dX6_empty_2 : decode cX6_empty 2 = .ok (.putfield 18, 3) := by decide +kernel
theorem dX6_empty_5 : decode cX6_empty 5 = .ok (.return_, 1) := by decide +kernel
theorem dX6_add_0 : decode cX6_add 0 = .ok (.aload_n 0, 1) := by decide +kernel
theorem dX6_add_1 : decode cX6_add 1 = .ok (.getfield 18, 3) := by decide +kernel
theorem dX6_add_4 : decode cX6_add 4 = .ok (.sipush 200, 3) := by decide +kernel
theorem dX6_add_7 : decode cX6_add 7 = .ok (.if_icmp .ge 33, 3) := by decide +kernel
theorem dX6_add_10 : decode cX6_add 10 = .ok (.aload_n 0, 1) := by decide +kernel
theorem dX6_add_11 : decode cX6_add 11 = .ok (.getfield 9, 3) := by decide +kernel
theorem dX6_add_14 : decode cX6_add 14 = .ok (.aload_n 0, 1) := by decide +kernel
theorem dX6_add_15 : decode cX6_add 15 = .ok (.getfield 18, 3) := by decide +kernel
theorem dX6_add_18 : decode cX6_add 18 = .ok (.iload_n 1, 1) := by decide +kernel
theorem dX6_add_19 : decode cX6_add 19 = .ok (.iastore, 1) := by decide +kernel
theorem dX6_add_20 : decode cX6_add 20 = .ok (.aload_n 0, 1) := by decide +kernel
theorem dX6_add_21 : decode cX6_add 21 = .ok (.getfield 15, 3) := by decide +kernel
theorem dX6_add_24 : decode cX6_add 24 = .ok (.aload_n 0, 1) := by decide +kernel
theorem dX6_add_25 : decode cX6_add 25 = .ok (.getfield 18, 3) := by decide +kernel
theorem dX6_add_28 : decode cX6_add 28 = .ok (.iload_n 2, 1) := by decide +kernel
theorem dX6_add_29 : decode cX6_add 29 = .ok (.iastore, 1) := by decide +kernel
theorem dX6_add_30 : decode cX6_add 30 = .ok (.aload_n 0, 1) := by decide +kernel
theorem dX6_add_31 : decode cX6_add 31 = .ok (.dup, 1) := by decide +kernel
theorem dX6_add_32 : decode cX6_add 32 = .ok (.getfield 18, 3) := by decide +kernel
theorem dX6_add_35 : decode cX6_add 35 = .ok (.iconst 1, 1) := by decide +kernel
theorem dX6_add_36 : decode cX6_add 36 = .ok (.iadd, 1) := by decide +kernel
theorem dX6_add_37 : decode cX6_add 37 = .ok (.putfield 18, 3) := by decide +kernel
theorem dX6_add_40 : decode cX6_add 40 = .ok (.return_, 1) := by decide +kernel
set_option maxRecDepth 20000 in
theorem ggX6_take_X6_walk : GoodIn wsX6_take wsX6_walk := goodIn_r _ [6, 7, 8, 9, 10, 2, 3, 4, 5, 11, 12, 13, 14, 1, 15, 16, 20, 21, 22, 23, 24, 25, 26, 27, 28, 17, 18, 19] (by decide +kernel) (by decide +kernel)
set_option maxRecDepth 20000 in
theorem gX6_take_X6_walk : GoodIn wsX6_take (wsV RX6 22 RX6 yX6_walk wsX6_walk) := goodIn_app (goodIn_of _ (by decide +kernel)) ggX6_take_X6_walk
theorem dX6_take_0 : decode cX6_take 0 = .ok (.aload_n 0, 1) := by decide +kernel
theorem dX6_take_1 : decode cX6_take 1 = .ok (.iconst 0, 1) := by decide +kernel
theorem dX6_take_2 : decode cX6_take 2 = .ok (.putfield 18, 3) := by decide +kernel
theorem dX6_take_5 : decode cX6_take 5 = .ok (.aload_n 0, 1) := by decide +kernel
theorem dX6_take_6 : decode cX6_take 6 = .ok (.aload_n 1, 1) := by decide +kernel
theorem dX6_take_7 : decode cX6_take 7 = .ok (.iconst 0, 1) := by decide +kernel
theorem dX6_take_8 : decode cX6_take 8 = .ok (.invokevirtual 22, 3) := by decide +kernel
theorem dX6_take_11 : decode cX6_take 11 = .ok (.return_, 1) := by decide +kernel
set_option maxRecDepth 20000 in
theorem ggX6_walk_X6_walk : GoodIn wsX6_walk wsX6_walk := goodIn_r _ [0, 1, 2, 3, 4, 5, 6, 7, 8, 9, 10, 11, 12, 13, 14, 15, 16, 17, 18, 19, 20, 21, 22, 23, 24, 25, 26, 27] (by decide +kernel) (by decide +kernel)
set_option maxRecDepth 20000 in
theorem gX6_walk_X6_walk : GoodIn wsX6_walk (wsV RX6 22 RX6 yX6_walk wsX6_walk) := goodIn_app (goodIn_of _ (by decide +kernel)) ggX6_walk_X6_walk
set_option maxRecDepth 20000 in
theorem ggX6_walk_X6_add : GoodIn wsX6_walk wsX6_add := goodIn_r _ [12, 13, 14, 15, 25, 26, 27] (by decide +kernel) (by decide +kernel)
set_option maxRecDepth 20000 in
theorem gX6_walk_X6_add : GoodIn wsX6_walk (wsV RX6 38 RX6 yX6_add wsX6_add) := goodIn_app (goodIn_of _ (by decide +kernel)) ggX6_walk_X6_add
theorem dX6_walk_0 : decode cX6_walk 0 = .ok (.aload_n 1, 1) := by decide +kernel
theorem dX6_walk_1 : decode cX6_walk 1 = .ok (.ifnull 9, 3) := by decide +kernel
theorem dX6_walk_4 : decode cX6_walk 4 = .ok (.iload_n 2, 1) := by decide +kernel
theorem dX6_walk_5 : decode cX6_walk 5 = .ok (.bipush 40, 2) := by decide +kernel
theorem dX6_walk_7 : decode cX6_walk 7 = .ok (.if_icmp .le 4, 3) := by decide +kernel
theorem dX6_walk_10 : decode cX6_walk 10 = .ok (.return_, 1) := by decide +kernel
theorem dX6_walk_11 : decode cX6_walk 11 = .ok (.aload_n 0, 1) := by decide +kernel
theorem dX6_walk_12 : decode cX6_walk 12 = .ok (.aload_n 1, 1) := by decide +kernel
theorem dX6_walk_13 : decode cX6_walk 13 = .ok (.getfield 26, 3) := by decide +kernel
theorem dX6_walk_16 : decode cX6_walk 16 = .ok (.iload_n 2, 1) := by decide +kernel
theorem dX6_walk_17 : decode cX6_walk 17 = .ok (.iconst 1, 1) := by decide +kernel
theorem dX6_walk_18 : decode cX6_walk 18 = .ok (.iadd, 1) := by decide +kernel
theorem dX6_walk_19 : decode cX6_walk 19 = .ok (.invokevirtual 22, 3) := by decide +kernel
theorem dX6_walk_22 : decode cX6_walk 22 = .ok (.aload_n 0, 1) := by decide +kernel
theorem dX6_walk_23 : decode cX6_walk 23 = .ok (.aload_n 1, 1) := by decide +kernel
theorem dX6_walk_24 : decode cX6_walk 24 = .ok (.getfield 32, 3) := by decide +kernel
theorem dX6_walk_27 : decode cX6_walk 27 = .ok (.aload_n 1, 1) := by decide +kernel
theorem dX6_walk_28 : decode cX6_walk 28 = .ok (.getfield 35, 3) := by decide +kernel
theorem dX6_walk_31 : decode cX6_walk 31 = .ok (.invokevirtual 38, 3) := by decide +kernel
theorem dX6_walk_34 : decode cX6_walk 34 = .ok (.aload_n 0, 1) := by decide +kernel
theorem dX6_walk_35 : decode cX6_walk 35 = .ok (.aload_n 1, 1) := by decide +kernel
theorem dX6_walk_36 : decode cX6_walk 36 = .ok (.getfield 42, 3) := by decide +kernel
theorem dX6_walk_39 : decode cX6_walk 39 = .ok (.iload_n 2, 1) := by decide +kernel
theorem dX6_walk_40 : decode cX6_walk 40 = .ok (.iconst 1, 1) := by decide +kernel
theorem dX6_walk_41 : decode cX6_walk 41 = .ok (.iadd, 1) := by decide +kernel
theorem dX6_walk_42 : decode cX6_walk 42 = .ok (.invokevirtual 22, 3) := by decide +kernel
theorem dX6_walk_45 : decode cX6_walk 45 = .ok (.return_, 1) := by decide +kernel
set_option maxRecDepth 20000 in
theorem ggX6_keyAt_X8_isIn : GoodIn wsX6_keyAt wsX8_isIn := goodIn_r _ [6] (by decide +kernel) (by decide +kernel)
set_option maxRecDepth 20000 in
theorem gX6_keyAt_X8_isIn_n45 : GoodIn wsX6_keyAt (wsX8_isIn) := ggX6_keyAt_X8_isIn
theorem dX6_keyAt_0 : decode cX6_keyAt 0 = .ok (.iload_n 1, 1) := by decide +kernel
theorem dX6_keyAt_1 : decode cX6_keyAt 1 = .ok (.iconst 0, 1) := by decide +kernel
theorem dX6_keyAt_2 : decode cX6_keyAt 2 = .ok (.aload_n 0, 1) := by decide +kernel
theorem dX6_keyAt_3 : decode cX6_keyAt 3 = .ok (.getfield 18, 3) := by decide +kernel
theorem dX6_keyAt_6 : decode cX6_keyAt 6 = .ok (.iconst 1, 1) := by decide +kernel
theorem dX6_keyAt_7 : decode cX6_keyAt 7 = .ok (.isub, 1) := by decide +kernel
theorem dX6_keyAt_8 : decode cX6_keyAt 8 = .ok (.invokestatic 45, 3) := by decide +kernel
theorem dX6_keyAt_11 : decode cX6_keyAt 11 = .ok (.ifCond .eq 12, 3) := by decide +kernel
theorem dX6_keyAt_14 : decode cX6_keyAt 14 = .ok (.aload_n 0, 1) := by decide +kernel
theorem dX6_keyAt_15 : decode cX6_keyAt 15 = .ok (.getfield 9, 3) := by decide +kernel
theorem dX6_keyAt_18 : decode cX6_keyAt 18 = .ok (.iload_n 1, 1) := by decide +kernel
theorem dX6_keyAt_19 : decode cX6_keyAt 19 = .ok (.iaload, 1) := by decide +kernel
theorem dX6_keyAt_20 : decode cX6_keyAt 20 = .ok (.goto 5, 3) := by decide +kernel
theorem dX6_keyAt_23 : decode cX6_keyAt 23 = .ok (.ldc 49, 2) := by decide +kernel
theorem dX6_keyAt_25 : decode cX6_keyAt 25 = .ok (.ireturn, 1) := by decide +kernel
set_option maxRecDepth 20000 in
theorem ggX6_valueAt_X8_isIn : GoodIn wsX6_valueAt wsX8_isIn := goodIn_r _ [6] (by decide +kernel) (by decide +kernel)
set_option maxRecDepth 20000 in
theorem gX6_valueAt_X8_isIn_n45 : GoodIn wsX6_valueAt (wsX8_isIn) := ggX6_valueAt_X8_isIn
theorem dX6_valueAt_0 : decode cX6_valueAt 0 = .ok (.iload_n 1, 1) := by decide +kernel
theorem dX6_valueAt_1 : decode cX6_valueAt 1 = .ok (.iconst 0, 1) := by decide +kernel
theorem dX6_valueAt_2 : decode cX6_valueAt 2 = .ok (.aload_n 0, 1) := by decide +kernel
theorem dX6_valueAt_3 : decode cX6_valueAt 3 = .ok (.getfield 18, 3) := by decide +kernel
theorem dX6_valueAt_6 : decode cX6_valueAt 6 = .ok (.iconst 1, 1) := by decide +kernel
theorem dX6_valueAt_7 : decode cX6_valueAt 7 = .ok (.isub, 1) := by decide +kernel
theorem dX6_valueAt_8 : decode cX6_valueAt 8 = .ok (.invokestatic 45, 3) := by decide +kernel
theorem dX6_valueAt_11 : decode cX6_valueAt 11 = .ok (.ifCond .eq 12, 3) := by decide +kernel
theorem dX6_valueAt_14 : decode cX6_valueAt 14 = .ok (.aload_n 0, 1) := by decide +kernel
theorem dX6_valueAt_15 : decode cX6_valueAt 15 = .ok (.getfield 15, 3) := by decide +kernel
theorem dX6_valueAt_18 : decode cX6_valueAt 18 = .ok (.iload_n 1, 1) := by decide +kernel
theorem dX6_valueAt_19 : decode cX6_valueAt 19 = .ok (.iaload, 1) := by decide +kernel
theorem dX6_valueAt_20 : decode cX6_valueAt 20 = .ok (.goto 5, 3) := by decide +kernel
theorem dX6_valueAt_23 : decode cX6_valueAt 23 = .ok (.ldc 49, 2) := by decide +kernel
theorem dX6_valueAt_25 : decode cX6_valueAt 25 = .ok (.ireturn, 1) := by decide +kernel
set_option maxRecDepth 20000 in
theorem ggX6_keyOfGreatest_X6_countStandingsBelow : GoodIn wsX6_keyOfGreatest wsX6_countStandingsBelow := goodIn_r _ [5, 6, 7, 8, 9, 4, 10, 11, 12, 13, 14, 15, 16, 17, 18, 19, 20, 21, 22, 23, 24, 25, 26, 27, 28] (by decide +kernel) (by decide +kernel)
set_option maxRecDepth 20000 in
theorem gX6_keyOfGreatest_X6_countStandingsBelow : GoodIn wsX6_keyOfGreatest (wsV RX6 50 RX6 yX6_countStandingsBelow wsX6_countStandingsBelow) := goodIn_app (goodIn_of _ (by decide +kernel)) ggX6_keyOfGreatest_X6_countStandingsBelow
theorem dX6_keyOfGreatest_0 : decode cX6_keyOfGreatest 0 = .ok (.iconst 0, 1) := by decide +kernel
theorem dX6_keyOfGreatest_1 : decode cX6_keyOfGreatest 1 = .ok (.istore_n 2, 1) := by decide +kernel
theorem dX6_keyOfGreatest_2 : decode cX6_keyOfGreatest 2 = .ok (.bipush 30, 2) := by decide +kernel
theorem dX6_keyOfGreatest_4 : decode cX6_keyOfGreatest 4 = .ok (.istore_n 3, 1) := by decide +kernel
theorem dX6_keyOfGreatest_5 : decode cX6_keyOfGreatest 5 = .ok (.iload_n 3, 1) := by decide +kernel
theorem dX6_keyOfGreatest_6 : decode cX6_keyOfGreatest 6 = .ok (.ifCond .lt 29, 3) := by decide +kernel
theorem dX6_keyOfGreatest_9 : decode cX6_keyOfGreatest 9 = .ok (.iload_n 2, 1) := by decide +kernel
theorem dX6_keyOfGreatest_10 : decode cX6_keyOfGreatest 10 = .ok (.iconst 1, 1) := by decide +kernel
theorem dX6_keyOfGreatest_11 : decode cX6_keyOfGreatest 11 = .ok (.iload_n 3, 1) := by decide +kernel
theorem dX6_keyOfGreatest_12 : decode cX6_keyOfGreatest 12 = .ok (.ishl, 1) := by decide +kernel
theorem dX6_keyOfGreatest_13 : decode cX6_keyOfGreatest 13 = .ok (.ior, 1) := by decide +kernel
theorem dX6_keyOfGreatest_14 : decode cX6_keyOfGreatest 14 = .ok (.istore 4, 2) := by decide +kernel
theorem dX6_keyOfGreatest_16 : decode cX6_keyOfGreatest 16 = .ok (.aload_n 0, 1) := by decide +kernel
theorem dX6_keyOfGreatest_17 : decode cX6_keyOfGreatest 17 = .ok (.iload 4, 2) := by decide +kernel
theorem dX6_keyOfGreatest_19 : decode cX6_keyOfGreatest 19 = .ok (.invokevirtual 50, 3) := by decide +kernel
theorem dX6_keyOfGreatest_22 : decode cX6_keyOfGreatest 22 = .ok (.iload_n 1, 1) := by decide +kernel
theorem dX6_keyOfGreatest_23 : decode cX6_keyOfGreatest 23 = .ok (.if_icmp .gt 6, 3) := by decide +kernel
theorem dX6_keyOfGreatest_26 : decode cX6_keyOfGreatest 26 = .ok (.iload 4, 2) := by decide +kernel
theorem dX6_keyOfGreatest_28 : decode cX6_keyOfGreatest 28 = .ok (.istore_n 2, 1) := by decide +kernel
theorem dX6_keyOfGreatest_29 : decode cX6_keyOfGreatest 29 = .ok (.iinc 3 (-1), 3) := by decide +kernel
theorem dX6_keyOfGreatest_32 : decode cX6_keyOfGreatest 32 = .ok (.goto (-27), 3) := by decide +kernel
theorem dX6_keyOfGreatest_35 : decode cX6_keyOfGreatest 35 = .ok (.iload_n 2, 1) := by decide +kernel
theorem dX6_keyOfGreatest_36 : decode cX6_keyOfGreatest 36 = .ok (.sipush 1001, 3) := by decide +kernel
theorem dX6_keyOfGreatest_39 : decode cX6_keyOfGreatest 39 = .ok (.irem, 1) := by decide +kernel
theorem dX6_keyOfGreatest_40 : decode cX6_keyOfGreatest 40 = .ok (.sipush 500, 3) := by decide +kernel
theorem dX6_keyOfGreatest_43 : decode cX6_keyOfGreatest 43 = .ok (.isub, 1) := by decide +kernel
theorem dX6_keyOfGreatest_44 : decode cX6_keyOfGreatest 44 = .ok (.ireturn, 1) := by decide +kernel
set_option maxRecDepth 20000 in
theorem ggX6_countStandingsBelow_X6_standing : GoodIn wsX6_countStandingsBelow wsX6_standing := goodIn_r _ [6, 7, 8, 9, 10, 5, 11, 1, 12, 13, 14, 15, 16, 17, 18, 19, 20, 21, 22, 23, 24] (by decide +kernel) (by decide +kernel)
set_option maxRecDepth 20000 in
theorem gX6_countStandingsBelow_X6_standing : GoodIn wsX6_countStandingsBelow (wsV RX6 54 RX6 yX6_standing wsX6_standing) := goodIn_app (goodIn_of _ (by decide +kernel)) ggX6_countStandingsBelow_X6_standing
theorem dX6_countStandingsBelow_0 : decode cX6_countStandingsBelow 0 = .ok (.iconst 0, 1) := by decide +kernel
theorem dX6_countStandingsBelow_1 : decode cX6_countStandingsBelow 1 = .ok (.istore_n 2, 1) := by decide +kernel
theorem dX6_countStandingsBelow_2 : decode cX6_countStandingsBelow 2 = .ok (.iconst 0, 1) := by decide +kernel
theorem dX6_countStandingsBelow_3 : decode cX6_countStandingsBelow 3 = .ok (.istore_n 3, 1) := by decide +kernel
theorem dX6_countStandingsBelow_4 : decode cX6_countStandingsBelow 4 = .ok (.iload_n 3, 1) := by decide +kernel
theorem dX6_countStandingsBelow_5 : decode cX6_countStandingsBelow 5 = .ok (.aload_n 0, 1) := by decide +kernel
theorem dX6_countStandingsBelow_6 : decode cX6_countStandingsBelow 6 = .ok (.getfield 18, 3) := by decide +kernel
theorem dX6_countStandingsBelow_9 : decode cX6_countStandingsBelow 9 = .ok (.if_icmp .ge 21, 3) := by decide +kernel
theorem dX6_countStandingsBelow_12 : decode cX6_countStandingsBelow 12 = .ok (.aload_n 0, 1) := by decide +kernel
theorem dX6_countStandingsBelow_13 : decode cX6_countStandingsBelow 13 = .ok (.iload_n 3, 1) := by decide +kernel
theorem dX6_countStandingsBelow_14 : decode cX6_countStandingsBelow 14 = .ok (.invokevirtual 54, 3) := by decide +kernel
theorem dX6_countStandingsBelow_17 : decode cX6_countStandingsBelow 17 = .ok (.iload_n 1, 1) := by decide +kernel
theorem dX6_countStandingsBelow_18 : decode cX6_countStandingsBelow 18 = .ok (.if_icmp .ge 6, 3) := by decide +kernel
theorem dX6_countStandingsBelow_21 : decode cX6_countStandingsBelow 21 = .ok (.iinc 2 1, 3) := by decide +kernel
theorem dX6_countStandingsBelow_24 : decode cX6_countStandingsBelow 24 = .ok (.iinc 3 1, 3) := by decide +kernel
theorem dX6_countStandingsBelow_27 : decode cX6_countStandingsBelow 27 = .ok (.goto (-23), 3) := by decide +kernel
theorem dX6_countStandingsBelow_30 : decode cX6_countStandingsBelow 30 = .ok (.iload_n 2, 1) := by decide +kernel
theorem dX6_countStandingsBelow_31 : decode cX6_countStandingsBelow 31 = .ok (.ireturn, 1) := by decide +kernel
set_option maxRecDepth 20000 in
theorem ggX6_standing_X6_valueAt : GoodIn wsX6_standing wsX6_valueAt := goodIn_r _ [6, 7, 8, 9, 10, 11, 12, 18, 19, 20] (by decide +kernel) (by decide +kernel)
set_option maxRecDepth 20000 in
theorem gX6_standing_X6_valueAt : GoodIn wsX6_standing (wsV RX6 58 RX6 yX6_valueAt wsX6_valueAt) := goodIn_app (goodIn_of _ (by decide +kernel)) ggX6_standing_X6_valueAt
set_option maxRecDepth 20000 in
theorem ggX6_standing_X6_keyAt : GoodIn wsX6_standing wsX6_keyAt := goodIn_r _ [16, 7, 17, 9, 10, 11, 12, 18, 19, 20] (by decide +kernel) (by decide +kernel)
set_option maxRecDepth 20000 in
theorem gX6_standing_X6_keyAt : GoodIn wsX6_standing (wsV RX6 61 RX6 yX6_keyAt wsX6_keyAt) := goodIn_app (goodIn_of _ (by decide +kernel)) ggX6_standing_X6_keyAt
theorem dX6_standing_0 : decode cX6_standing 0 = .ok (.ldc 57, 2) := by decide +kernel
theorem dX6_standing_2 : decode cX6_standing 2 = .ok (.aload_n 0, 1) := by decide +kernel
theorem dX6_standing_3 : decode cX6_standing 3 = .ok (.iload_n 1, 1) := by decide +kernel
theorem dX6_standing_4 : decode cX6_standing 4 = .ok (.invokevirtual 58, 3) := by decide +kernel
theorem dX6_standing_7 : decode cX6_standing 7 = .ok (.isub, 1) := by decide +kernel
theorem dX6_standing_8 : decode cX6_standing 8 = .ok (.sipush 1001, 3) := by decide +kernel
theorem dX6_standing_11 : decode cX6_standing 11 = .ok (.imul, 1) := by decide +kernel
theorem dX6_standing_12 : decode cX6_standing 12 = .ok (.aload_n 0, 1) := by decide +kernel
theorem dX6_standing_13 : decode cX6_standing 13 = .ok (.iload_n 1, 1) := by decide +kernel
theorem dX6_standing_14 : decode cX6_standing 14 = .ok (.invokevirtual 61, 3) := by decide +kernel
theorem dX6_standing_17 : decode cX6_standing 17 = .ok (.iadd, 1) := by decide +kernel
theorem dX6_standing_18 : decode cX6_standing 18 = .ok (.sipush 500, 3) := by decide +kernel
theorem dX6_standing_21 : decode cX6_standing 21 = .ok (.iadd, 1) := by decide +kernel
theorem dX6_standing_22 : decode cX6_standing 22 = .ok (.ireturn, 1) := by decide +kernel
theorem dX7_init_0 : decode cX7_init 0 = .ok (.aload_n 0, 1) := by decide +kernel
theorem dX7_init_1 : decode cX7_init 1 = .ok (.invokespecial 3, 3) := by decide +kernel
theorem dX7_init_4 : decode cX7_init 4 = .ok (.aload_n 0, 1) := by decide +kernel
theorem dX7_init_5 : decode cX7_init 5 = .ok (.bipush 72, 2) := by decide +kernel
theorem dX7_init_7 : decode cX7_init 7 = .ok (.anewarray 9, 3) := by decide +kernel
theorem dX7_init_10 : decode cX7_init 10 = .ok (.putfield 11, 3) := by decide +kernel
theorem dX7_init_13 : decode cX7_init 13 = .ok (.return_, 1) := by decide +kernel
theorem dX7_leave_0 : decode cX7_leave 0 = .ok (.iconst 0, 1) := by decide +kernel
theorem dX7_leave_1 : decode cX7_leave 1 = .ok (.istore_n 2, 1) := by decide +kernel
theorem dX7_leave_2 : decode cX7_leave 2 = .ok (.iload_n 2, 1) := by decide +kernel
theorem dX7_leave_3 : decode cX7_leave 3 = .ok (.bipush 6, 2) := by decide +kernel
theorem dX7_leave_5 : decode cX7_leave 5 = .ok (.if_icmp .ge 26, 3) := by decide +kernel
theorem dX7_leave_8 : decode cX7_leave 8 = .ok (.aload_n 0, 1) := by decide +kernel
theorem dX7_leave_9 : decode cX7_leave 9 = .ok (.getfield 11, 3) := by decide +kernel
theorem dX7_leave_12 : decode cX7_leave 12 = .ok (.aload_n 0, 1) := by decide +kernel
theorem dX7_leave_13 : decode cX7_leave 13 = .ok (.getfield 17, 3) := by decide +kernel
theorem dX7_leave_16 : decode cX7_leave 16 = .ok (.bipush 6, 2) := by decide +kernel
theorem dX7_leave_18 : decode cX7_leave 18 = .ok (.imul, 1) := by decide +kernel
theorem dX7_leave_19 : decode cX7_leave 19 = .ok (.iload_n 2, 1) := by decide +kernel
theorem dX7_leave_20 : decode cX7_leave 20 = .ok (.iadd, 1) := by decide +kernel
theorem dX7_leave_21 : decode cX7_leave 21 = .ok (.aload_n 1, 1) := by decide +kernel
theorem dX7_leave_22 : decode cX7_leave 22 = .ok (.iload_n 2, 1) := by decide +kernel
theorem dX7_leave_23 : decode cX7_leave 23 = .ok (.aaload, 1) := by decide +kernel
theorem dX7_leave_24 : decode cX7_leave 24 = .ok (.aastore, 1) := by decide +kernel
theorem dX7_leave_25 : decode cX7_leave 25 = .ok (.iinc 2 1, 3) := by decide +kernel
theorem dX7_leave_28 : decode cX7_leave 28 = .ok (.goto (-26), 3) := by decide +kernel
theorem dX7_leave_31 : decode cX7_leave 31 = .ok (.aload_n 0, 1) := by decide +kernel
theorem dX7_leave_32 : decode cX7_leave 32 = .ok (.aload_n 0, 1) := by decide +kernel
theorem dX7_leave_33 : decode cX7_leave 33 = .ok (.getfield 17, 3) := by decide +kernel
theorem dX7_leave_36 : decode cX7_leave 36 = .ok (.iconst 1, 1) := by decide +kernel
theorem dX7_leave_37 : decode cX7_leave 37 = .ok (.iadd, 1) := by decide +kernel
theorem dX7_leave_38 : decode cX7_leave 38 = .ok (.bipush 12, 2) := by decide +kernel
theorem dX7_leave_40 : decode cX7_leave 40 = .ok (.irem, 1) := by decide +kernel
theorem dX7_leave_41 : decode cX7_leave 41 = .ok (.putfield 17, 3) := by decide +kernel
theorem dX7_leave_44 : decode cX7_leave 44 = .ok (.aload_n 0, 1) := by decide +kernel
theorem dX7_leave_45 : decode cX7_leave 45 = .ok (.aload_n 0, 1) := by decide +kernel
theorem dX7_leave_46 : decode cX7_leave 46 = .ok (.getfield 21, 3) := by decide +kernel
theorem dX7_leave_49 : decode cX7_leave 49 = .ok (.iconst 1, 1) := by decide +kernel
theorem dX7_leave_50 : decode cX7_leave 50 = .ok (.iadd, 1) := by decide +kernel
theorem dX7_leave_51 : decode cX7_leave 51 = .ok (.bipush 12, 2) := by decide +kernel
theorem dX7_leave_53 : decode cX7_leave 53 = .ok (.invokestatic 24, 3) := by decide +kernel
theorem dX7_leave_56 : decode cX7_leave 56 = .ok (.putfield 21, 3) := by decide +kernel
theorem dX7_leave_59 : decode cX7_leave 59 = .ok (.return_, 1) := by decide +kernel
theorem dX7_bringLast_0 : decode cX7_bringLast 0 = .ok (.aload_n 0, 1) := by decide +kernel
theorem dX7_bringLast_1 : decode cX7_bringLast 1 = .ok (.aload_n 0, 1) := by decide +kernel
theorem dX7_bringLast_2 : decode cX7_bringLast 2 = .ok (.getfield 17, 3) := by decide +kernel
theorem dX7_bringLast_5 : decode cX7_bringLast 5 = .ok (.bipush 12, 2) := by decide +kernel
theorem dX7_bringLast_7 : decode cX7_bringLast 7 = .ok (.iadd, 1) := by decide +kernel
theorem dX7_bringLast_8 : decode cX7_bringLast 8 = .ok (.iconst 1, 1) := by decide +kernel
theorem dX7_bringLast_9 : decode cX7_bringLast 9 = .ok (.isub, 1) := by decide +kernel
theorem dX7_bringLast_10 : decode cX7_bringLast 10 = .ok (.bipush 12, 2) := by decide +kernel
theorem dX7_bringLast_12 : decode cX7_bringLast 12 = .ok (.irem, 1) := by decide +kernel
theorem dX7_bringLast_13 : decode cX7_bringLast 13 = .ok (.putfield 17, 3) := by decide +kernel
theorem dX7_bringLast_16 : decode cX7_bringLast 16 = .ok (.aload_n 0, 1) := by decide +kernel
theorem dX7_bringLast_17 : decode cX7_bringLast 17 = .ok (.aload_n 0, 1) := by decide +kernel
theorem dX7_bringLast_18 : decode cX7_bringLast 18 = .ok (.getfield 21, 3) := by decide +kernel
theorem dX7_bringLast_21 : decode cX7_bringLast 21 = .ok (.iconst 1, 1) := by decide +kernel
theorem dX7_bringLast_22 : decode cX7_bringLast 22 = .ok (.isub, 1) := by decide +kernel
theorem dX7_bringLast_23 : decode cX7_bringLast 23 = .ok (.iconst 0, 1) := by decide +kernel
theorem dX7_bringLast_24 : decode cX7_bringLast 24 = .ok (.invokestatic 30, 3) := by decide +kernel
theorem dX7_bringLast_27 : decode cX7_bringLast 27 = .ok (.putfield 21, 3) := by decide +kernel
theorem dX7_bringLast_30 : decode cX7_bringLast 30 = .ok (.iconst 0, 1) := by decide +kernel
theorem dX7_bringLast_31 : decode cX7_bringLast 31 = .ok (.istore_n 2, 1) := by decide +kernel
theorem dX7_bringLast_32 : decode cX7_bringLast 32 = .ok (.iload_n 2, 1) := by decide +kernel
theorem dX7_bringLast_33 : decode cX7_bringLast 33 = .ok (.bipush 6, 2) := by decide +kernel
theorem dX7_bringLast_35 : decode cX7_bringLast 35 = .ok (.if_icmp .ge 41, 3) := by decide +kernel
theorem dX7_bringLast_38 : decode cX7_bringLast 38 = .ok (.aload_n 1, 1) := by decide +kernel
theorem dX7_bringLast_39 : decode cX7_bringLast 39 = .ok (.iload_n 2, 1) := by decide +kernel
theorem dX7_bringLast_40 : decode cX7_bringLast 40 = .ok (.aload_n 0, 1) := by decide +kernel
theorem dX7_bringLast_41 : decode cX7_bringLast 41 = .ok (.getfield 11, 3) := by decide +kernel
theorem dX7_bringLast_44 : decode cX7_bringLast 44 = .ok (.aload_n 0, 1) := by decide +kernel
theorem dX7_bringLast_45 : decode cX7_bringLast 45 = .ok (.getfield 17, 3) := by decide +kernel
theorem dX7_bringLast_48 : decode cX7_bringLast 48 = .ok (.bipush 6, 2) := by decide +kernel
theorem dX7_bringLast_50 : decode cX7_bringLast 50 = .ok (.imul, 1) := by decide +kernel
theorem dX7_bringLast_51 : decode cX7_bringLast 51 = .ok (.iload_n 2, 1) := by decide +kernel
theorem dX7_bringLast_52 : decode cX7_bringLast 52 = .ok (.iadd, 1) := by decide +kernel
theorem dX7_bringLast_53 : decode cX7_bringLast 53 = .ok (.aaload, 1) := by decide +kernel
theorem dX7_bringLast_54 : decode cX7_bringLast 54 = .ok (.aastore, 1) := by decide +kernel
theorem dX7_bringLast_55 : decode cX7_bringLast 55 = .ok (.aload_n 0, 1) := by decide +kernel
theorem dX7_bringLast_56 : decode cX7_bringLast 56 = .ok (.getfield 11, 3) := by decide +kernel
theorem dX7_bringLast_59 : decode cX7_bringLast 59 = .ok (.aload_n 0, 1) := by decide +kernel
theorem dX7_bringLast_60 : decode cX7_bringLast 60 = .ok (.getfield 17, 3) := by decide +kernel
theorem dX7_bringLast_63 : decode cX7_bringLast 63 = .ok (.bipush 6, 2) := by decide +kernel
theorem dX7_bringLast_65 : decode cX7_bringLast 65 = .ok (.imul, 1) := by decide +kernel
theorem dX7_bringLast_66 : decode cX7_bringLast 66 = .ok (.iload_n 2, 1) := by decide +kernel
theorem dX7_bringLast_67 : decode cX7_bringLast 67 = .ok (.iadd, 1) := by decide +kernel
theorem dX7_bringLast_68 : decode cX7_bringLast 68 = .ok (.aconst_null, 1) := by decide +kernel
theorem dX7_bringLast_69 : decode cX7_bringLast 69 = .ok (.aastore, 1) := by decide +kernel
theorem dX7_bringLast_70 : decode cX7_bringLast 70 = .ok (.iinc 2 1, 3) := by decide +kernel
theorem dX7_bringLast_73 : decode cX7_bringLast 73 = .ok (.goto (-41), 3) := by decide +kernel
theorem dX7_bringLast_76 : decode cX7_bringLast 76 = .ok (.return_, 1) := by decide +kernel
set_option maxRecDepth 20000 in
theorem ggX8_init_X2_init : GoodIn wsX8_init wsX2_init := goodIn_r _ [38, 39, 2, 3] (by decide +kernel) (by decide +kernel)
set_option maxRecDepth 20000 in
theorem gX8_init_X2_init_n9 : GoodIn wsX8_init (wsX2_init) := ggX8_init_X2_init
set_option maxRecDepth 20000 in
theorem ggX8_init_X1_init : GoodIn wsX8_init wsX1_init := goodIn_r _ [42, 43, 2, 3, 44, 94, 95] (by decide +kernel) (by decide +kernel)
set_option maxRecDepth 20000 in
theorem gX8_init_X1_init : GoodIn wsX8_init (wsX1_init) := ggX8_init_X1_init
set_option maxRecDepth 20000 in
theorem ggX8_init_X7_init : GoodIn wsX8_init wsX7_init := goodIn_r _ [46, 47, 2, 3, 48, 49, 96, 97, 98] (by decide +kernel) (by decide +kernel)
set_option maxRecDepth 20000 in
theorem gX8_init_X7_init_n33 : GoodIn wsX8_init (wsX7_init) := ggX8_init_X7_init
set_option maxRecDepth 20000 in
theorem ggX8_init_X4_init : GoodIn wsX8_init wsX4_init := goodIn_r _ [51, 52, 2, 3, 53, 54, 55, 99, 100, 101] (by decide +kernel) (by decide +kernel)
set_option maxRecDepth 20000 in
theorem gX8_init_X4_init_n44 : GoodIn wsX8_init (wsX4_init) := ggX8_init_X4_init
set_option maxRecDepth 20000 in
theorem ggX8_init_X5_init : GoodIn wsX8_init wsX5_init := goodIn_r _ [58, 59, 2, 3, 53, 60, 61, 62, 102, 103, 104, 105, 106, 107, 108, 109, 110, 111, 112] (by decide +kernel) (by decide +kernel)
set_option maxRecDepth 20000 in
theorem gX8_init_X5_init : GoodIn wsX8_init (wsX5_init) := ggX8_init_X5_init
set_option maxRecDepth 20000 in
theorem ggX8_init_X0_init : GoodIn wsX8_init wsX0_init := goodIn_r _ [65, 66, 2, 3, 67, 68, 69, 70, 113, 114, 115, 116] (by decide +kernel) (by decide +kernel)
set_option maxRecDepth 20000 in
theorem gX8_init_X0_init : GoodIn wsX8_init (wsX0_init) := ggX8_init_X0_init
set_option maxRecDepth 20000 in
theorem ggX8_init_X6_init : GoodIn wsX8_init wsX6_init := goodIn_r _ [72, 73, 2, 3, 53, 74, 75, 117, 118, 119] (by decide +kernel) (by decide +kernel)
set_option maxRecDepth 20000 in
theorem gX8_init_X6_init_n67 : GoodIn wsX8_init (wsX6_init) := ggX8_init_X6_init
