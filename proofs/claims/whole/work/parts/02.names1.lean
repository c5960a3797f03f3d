theorem dX0_init_0 : decode cX0_init 0 = .ok (.aload_n 0, 1) := by decide +kernel
theorem dX0_init_1 : decode cX0_init 1 = .ok (.invokespecial 1, 3) := by decide +kernel
theorem dX0_init_4 : decode cX0_init 4 = .ok (.return_, 1) := by decide +kernel
theorem dX0_begin_0 : decode cX0_begin 0 = .ok (.aload_n 0, 1) := by decide +kernel
theorem dX0_begin_1 : decode cX0_begin 1 = .ok (.iload_n 1, 1) := by decide +kernel
theorem dX0_begin_2 : decode cX0_begin 2 = .ok (.putfield 7, 3) := by decide +kernel
theorem dX0_begin_5 : decode cX0_begin 5 = .ok (.aload_n 0, 1) := by decide +kernel
theorem dX0_begin_6 : decode cX0_begin 6 = .ok (.iload_n 2, 1) := by decide +kernel
theorem dX0_begin_7 : decode cX0_begin 7 = .ok (.putfield 13, 3) := by decide +kernel
theorem dX0_begin_10 : decode cX0_begin 10 = .ok (.aload_n 0, 1) := by decide +kernel
theorem dX0_begin_11 : decode cX0_begin 11 = .ok (.iload_n 3, 1) := by decide +kernel
theorem dX0_begin_12 : decode cX0_begin 12 = .ok (.putfield 16, 3) := by decide +kernel
theorem dX0_begin_15 : decode cX0_begin 15 = .ok (.return_, 1) := by decide +kernel
theorem dX0_passedOf_0 : decode cX0_passedOf 0 = .ok (.iload_n 1, 1) := by decide +kernel
theorem dX0_passedOf_1 : decode cX0_passedOf 1 = .ok (.iload_n 1, 1) := by decide +kernel
theorem dX0_passedOf_2 : decode cX0_passedOf 2 = .ok (.aload_n 0, 1) := by decide +kernel
theorem dX0_passedOf_3 : decode cX0_passedOf 3 = .ok (.getfield 16, 3) := by decide +kernel
theorem dX0_passedOf_6 : decode cX0_passedOf 6 = .ok (.imul, 1) := by decide +kernel
theorem dX0_passedOf_7 : decode cX0_passedOf 7 = .ok (.bipush 99, 2) := by decide +kernel
theorem dX0_passedOf_9 : decode cX0_passedOf 9 = .ok (.iadd, 1) := by decide +kernel
theorem dX0_passedOf_10 : decode cX0_passedOf 10 = .ok (.bipush 100, 2) := by decide +kernel
theorem dX0_passedOf_12 : decode cX0_passedOf 12 = .ok (.idiv, 1) := by decide +kernel
theorem dX0_passedOf_13 : decode cX0_passedOf 13 = .ok (.isub, 1) := by decide +kernel
theorem dX0_passedOf_14 : decode cX0_passedOf 14 = .ok (.ireturn, 1) := by decide +kernel
theorem dX0_inflowFor_0 : decode cX0_inflowFor 0 = .ok (.bipush 100, 2) := by decide +kernel
theorem dX0_inflowFor_2 : decode cX0_inflowFor 2 = .ok (.aload_n 0, 1) := by decide +kernel
theorem dX0_inflowFor_3 : decode cX0_inflowFor 3 = .ok (.getfield 16, 3) := by decide +kernel
theorem dX0_inflowFor_6 : decode cX0_inflowFor 6 = .ok (.isub, 1) := by decide +kernel
theorem dX0_inflowFor_7 : decode cX0_inflowFor 7 = .ok (.istore_n 2, 1) := by decide +kernel
theorem dX0_inflowFor_8 : decode cX0_inflowFor 8 = .ok (.iload_n 2, 1) := by decide +kernel
theorem dX0_inflowFor_9 : decode cX0_inflowFor 9 = .ok (.ifCond .le 16, 3) := by decide +kernel
theorem dX0_inflowFor_12 : decode cX0_inflowFor 12 = .ok (.bipush 100, 2) := by decide +kernel
theorem dX0_inflowFor_14 : decode cX0_inflowFor 14 = .ok (.iload_n 1, 1) := by decide +kernel
theorem dX0_inflowFor_15 : decode cX0_inflowFor 15 = .ok (.imul, 1) := by decide +kernel
theorem dX0_inflowFor_16 : decode cX0_inflowFor 16 = .ok (.iload_n 2, 1) := by decide +kernel
theorem dX0_inflowFor_17 : decode cX0_inflowFor 17 = .ok (.iadd, 1) := by decide +kernel
theorem dX0_inflowFor_18 : decode cX0_inflowFor 18 = .ok (.iconst 1, 1) := by decide +kernel
theorem dX0_inflowFor_19 : decode cX0_inflowFor 19 = .ok (.isub, 1) := by decide +kernel
theorem dX0_inflowFor_20 : decode cX0_inflowFor 20 = .ok (.iload_n 2, 1) := by decide +kernel
theorem dX0_inflowFor_21 : decode cX0_inflowFor 21 = .ok (.idiv, 1) := by decide +kernel
theorem dX0_inflowFor_22 : decode cX0_inflowFor 22 = .ok (.goto 4, 3) := by decide +kernel
theorem dX0_inflowFor_25 : decode cX0_inflowFor 25 = .ok (.iconst 0, 1) := by decide +kernel
theorem dX0_inflowFor_26 : decode cX0_inflowFor 26 = .ok (.ireturn, 1) := by decide +kernel
theorem dX1_init_0 : decode cX1_init 0 = .ok (.aload_n 0, 1) := by decide +kernel
theorem dX1_init_1 : decode cX1_init 1 = .ok (.invokespecial 3, 3) := by decide +kernel
theorem dX1_init_4 : decode cX1_init 4 = .ok (.aload_n 0, 1) := by decide +kernel
theorem dX1_init_5 : decode cX1_init 5 = .ok (.bipush 12, 2) := by decide +kernel
theorem dX1_init_7 : decode cX1_init 7 = .ok (.newarray .int, 2) := by decide +kernel
theorem dX1_init_9 : decode cX1_init 9 = .ok (.putfield 9, 3) := by decide +kernel
theorem dX1_init_12 : decode cX1_init 12 = .ok (.aload_n 0, 1) := by decide +kernel
theorem dX1_init_13 : decode cX1_init 13 = .ok (.bipush 12, 2) := by decide +kernel
theorem dX1_init_15 : decode cX1_init 15 = .ok (.newarray .int, 2) := by decide +kernel
theorem dX1_init_17 : decode cX1_init 17 = .ok (.putfield 15, 3) := by decide +kernel
theorem dX1_init_20 : decode cX1_init 20 = .ok (.aload_n 0, 1) := by decide +kernel
theorem dX1_init_21 : decode cX1_init 21 = .ok (.bipush 10, 2) := by decide +kernel
theorem dX1_init_23 : decode cX1_init 23 = .ok (.newarray .int, 2) := by decide +kernel
theorem dX1_init_25 : decode cX1_init 25 = .ok (.putfield 18, 3) := by decide +kernel
theorem dX1_init_28 : decode cX1_init 28 = .ok (.aload_n 0, 1) := by decide +kernel
theorem dX1_init_29 : decode cX1_init 29 = .ok (.bipush 10, 2) := by decide +kernel
theorem dX1_init_31 : decode cX1_init 31 = .ok (.newarray .int, 2) := by decide +kernel
theorem dX1_init_33 : decode cX1_init 33 = .ok (.putfield 21, 3) := by decide +kernel
theorem dX1_init_36 : decode cX1_init 36 = .ok (.aload_n 0, 1) := by decide +kernel
theorem dX1_init_37 : decode cX1_init 37 = .ok (.bipush 10, 2) := by decide +kernel
theorem dX1_init_39 : decode cX1_init 39 = .ok (.newarray .int, 2) := by decide +kernel
theorem dX1_init_41 : decode cX1_init 41 = .ok (.putfield 24, 3) := by decide +kernel
theorem dX1_init_44 : decode cX1_init 44 = .ok (.return_, 1) := by decide +kernel
set_option maxRecDepth 20000 in
theorem ggX1_distribute_X2_supplyNow : GoodIn wsX1_distribute wsX2_supplyNow := goodIn_r _ [11, 12, 13, 14, 15, 10, 16, 17, 18, 19, 20, 21, 109, 110, 111, 112, 113, 114, 115, 116, 117, 118] (by decide +kernel) (by decide +kernel)
set_option maxRecDepth 20000 in
theorem gX1_distribute_X2_supplyNow : GoodIn wsX1_distribute (wsV RX1 27 RX2 yX2_supplyNow wsX2_supplyNow) := goodIn_app (goodIn_of _ (by decide +kernel)) ggX1_distribute_X2_supplyNow
set_option maxRecDepth 20000 in
theorem ggX1_distribute_X2_userInTurn : GoodIn wsX1_distribute wsX2_userInTurn := goodIn_r _ [25, 26, 27, 28, 29, 17, 18, 19, 20, 21, 109, 110, 111, 112, 113, 114, 115, 116, 117, 118, 119, 120, 121, 122, 123, 124, 125, 126, 127, 128, 129, 130] (by decide +kernel) (by decide +kernel)
set_option maxRecDepth 20000 in
theorem gX1_distribute_X2_userInTurn : GoodIn wsX1_distribute (wsV RX1 37 RX2 yX2_userInTurn wsX2_userInTurn) := goodIn_app (goodIn_of _ (by decide +kernel)) ggX1_distribute_X2_userInTurn
set_option maxRecDepth 20000 in
theorem ggX1_distribute_X2_unitsAsked : GoodIn wsX1_distribute wsX2_unitsAsked := goodIn_r _ [33, 27, 34, 35, 36, 37, 38, 39, 13, 14, 15, 10, 16, 17, 18, 19, 20, 21, 40, 41, 42, 43, 44, 45, 46, 47, 48, 49, 50, 51, 52, 53, 109, 110, 111, 112, 113, 114, 115, 116, 117, 118, 119, 120, 121, 122, 123, 124, 125, 126, 127, 128, 129, 130] (by decide +kernel) (by decide +kernel)
set_option maxRecDepth 20000 in
theorem gX1_distribute_X2_unitsAsked : GoodIn wsX1_distribute (wsV RX1 43 RX2 yX2_unitsAsked wsX2_unitsAsked) := goodIn_app (goodIn_of _ (by decide +kernel)) ggX1_distribute_X2_unitsAsked
set_option maxRecDepth 20000 in
theorem ggX1_distribute_X1_giveGreatestShares : GoodIn wsX1_distribute wsX1_giveGreatestShares := goodIn_r _ [58, 59, 60, 61, 57, 62, 2, 4, 3, 63, 64, 65, 66, 67, 68, 69, 70, 71, 72, 73, 74, 75, 76, 77, 78, 79, 80, 81, 82, 83, 1, 84, 109, 110, 111, 112, 113, 114, 115, 116, 117, 118, 103, 104, 105, 106, 107, 108, 119, 120, 121, 122, 123, 124, 125, 126, 127, 128, 129, 130, 131, 132, 133] (by decide +kernel) (by decide +kernel)
set_option maxRecDepth 20000 in
theorem gX1_distribute_X1_giveGreatestShares : GoodIn wsX1_distribute (wsV RX1 50 RX1 yX1_giveGreatestShares wsX1_giveGreatestShares) := goodIn_app (goodIn_of _ (by decide +kernel)) ggX1_distribute_X1_giveGreatestShares
set_option maxRecDepth 20000 in
theorem ggX1_distribute_X1_spread : GoodIn wsX1_distribute wsX1_spread := goodIn_r _ [66, 67, 68, 2, 69, 70, 4, 71, 72, 73, 74, 75, 76, 77, 78, 79, 109, 110, 111, 112, 113, 114, 115, 116, 117, 118, 103, 104, 105, 106, 107, 108, 119, 120, 121, 122, 123, 124, 125, 126, 127, 128, 129, 130, 131, 132, 133] (by decide +kernel) (by decide +kernel)
set_option maxRecDepth 20000 in
theorem gX1_distribute_X1_spread : GoodIn wsX1_distribute (wsV RX1 54 RX1 yX1_spread wsX1_spread) := goodIn_app (goodIn_of _ (by decide +kernel)) ggX1_distribute_X1_spread
set_option maxRecDepth 20000 in
theorem ggX1_distribute_X2_hasUser : GoodIn wsX1_distribute wsX2_hasUser := goodIn_r _ [88, 26, 109, 110, 111, 112, 113, 114, 115, 116, 117, 118] (by decide +kernel) (by decide +kernel)
set_option maxRecDepth 20000 in
theorem gX1_distribute_X2_hasUser : GoodIn wsX1_distribute (wsV RX1 57 RX2 yX2_hasUser wsX2_hasUser) := goodIn_app (goodIn_of _ (by decide +kernel)) ggX1_distribute_X2_hasUser
set_option maxRecDepth 20000 in
theorem ggX1_distribute_X1_serve : GoodIn wsX1_distribute wsX1_serve := goodIn_r _ [92, 3, 93, 37, 38, 39, 4, 94, 95, 96, 57, 97, 98, 72, 84, 1, 67, 73, 68, 71, 69, 70, 99, 100, 101, 77, 102, 79, 63, 64, 65, 66, 2, 74, 75, 76, 78, 103, 104, 105, 106, 107, 108, 109, 110, 111, 112, 113, 114, 115, 116, 117, 118, 131, 132, 133, 119, 120, 121, 122, 123, 124, 125, 126, 127, 128, 129, 130] (by decide +kernel) (by decide +kernel)
set_option maxRecDepth 20000 in
theorem gX1_distribute_X1_serve : GoodIn wsX1_distribute (wsV RX1 61 RX1 yX1_serve wsX1_serve) := goodIn_app (goodIn_of _ (by decide +kernel)) ggX1_distribute_X1_serve
theorem dX1_distribute_0 : decode cX1_distribute 0 = .ok (.aload_n 0, 1) := by decide +kernel
theorem dX1_distribute_1 : decode cX1_distribute 1 = .ok (.aload_n 1, 1) := by decide +kernel
theorem dX1_distribute_2 : decode cX1_distribute 2 = .ok (.invokevirtual 27, 3) := by decide +kernel
theorem dX1_distribute_5 : decode cX1_distribute 5 = .ok (.putfield 33, 3) := by decide +kernel
theorem dX1_distribute_8 : decode cX1_distribute 8 = .ok (.aload_n 1, 1) := by decide +kernel
theorem dX1_distribute_9 : decode cX1_distribute 9 = .ok (.invokevirtual 37, 3) := by decide +kernel
theorem dX1_distribute_12 : decode cX1_distribute 12 = .ok (.istore_n 2, 1) := by decide +kernel
theorem dX1_distribute_13 : decode cX1_distribute 13 = .ok (.iconst 0, 1) := by decide +kernel
theorem dX1_distribute_14 : decode cX1_distribute 14 = .ok (.istore_n 3, 1) := by decide +kernel
theorem dX1_distribute_15 : decode cX1_distribute 15 = .ok (.iload_n 3, 1) := by decide +kernel
theorem dX1_distribute_16 : decode cX1_distribute 16 = .ok (.aload_n 1, 1) := by decide +kernel
theorem dX1_distribute_17 : decode cX1_distribute 17 = .ok (.getfield 40, 3) := by decide +kernel
theorem dX1_distribute_20 : decode cX1_distribute 20 = .ok (.if_icmp .ge 28, 3) := by decide +kernel
theorem dX1_distribute_23 : decode cX1_distribute 23 = .ok (.aload_n 0, 1) := by decide +kernel
theorem dX1_distribute_24 : decode cX1_distribute 24 = .ok (.getfield 9, 3) := by decide +kernel
theorem dX1_distribute_27 : decode cX1_distribute 27 = .ok (.iload_n 3, 1) := by decide +kernel
theorem dX1_distribute_28 : decode cX1_distribute 28 = .ok (.aload_n 1, 1) := by decide +kernel
theorem dX1_distribute_29 : decode cX1_distribute 29 = .ok (.iload_n 3, 1) := by decide +kernel
theorem dX1_distribute_30 : decode cX1_distribute 30 = .ok (.iload_n 2, 1) := by decide +kernel
theorem dX1_distribute_31 : decode cX1_distribute 31 = .ok (.invokevirtual 43, 3) := by decide +kernel
theorem dX1_distribute_34 : decode cX1_distribute 34 = .ok (.iastore, 1) := by decide +kernel
theorem dX1_distribute_35 : decode cX1_distribute 35 = .ok (.aload_n 0, 1) := by decide +kernel
theorem dX1_distribute_36 : decode cX1_distribute 36 = .ok (.getfield 15, 3) := by decide +kernel
theorem dX1_distribute_39 : decode cX1_distribute 39 = .ok (.iload_n 3, 1) := by decide +kernel
theorem dX1_distribute_40 : decode cX1_distribute 40 = .ok (.iconst 0, 1) := by decide +kernel
theorem dX1_distribute_41 : decode cX1_distribute 41 = .ok (.iastore, 1) := by decide +kernel
theorem dX1_distribute_42 : decode cX1_distribute 42 = .ok (.iinc 3 1, 3) := by decide +kernel
theorem dX1_distribute_45 : decode cX1_distribute 45 = .ok (.goto (-30), 3) := by decide +kernel
theorem dX1_distribute_48 : decode cX1_distribute 48 = .ok (.aload_n 1, 1) := by decide +kernel
theorem dX1_distribute_49 : decode cX1_distribute 49 = .ok (.getfield 47, 3) := by decide +kernel
theorem dX1_distribute_52 : decode cX1_distribute 52 = .ok (.iconst 2, 1) := by decide +kernel
theorem dX1_distribute_53 : decode cX1_distribute 53 = .ok (.if_icmp .ne 8, 3) := by decide +kernel
theorem dX1_distribute_56 : decode cX1_distribute 56 = .ok (.aload_n 0, 1) := by decide +kernel
theorem dX1_distribute_57 : decode cX1_distribute 57 = .ok (.aload_n 1, 1) := by decide +kernel
theorem dX1_distribute_58 : decode cX1_distribute 58 = .ok (.invokevirtual 50, 3) := by decide +kernel
theorem dX1_distribute_61 : decode cX1_distribute 61 = .ok (.aload_n 0, 1) := by decide +kernel
theorem dX1_distribute_62 : decode cX1_distribute 62 = .ok (.aload_n 1, 1) := by decide +kernel
theorem dX1_distribute_63 : decode cX1_distribute 63 = .ok (.invokevirtual 54, 3) := by decide +kernel
theorem dX1_distribute_66 : decode cX1_distribute 66 = .ok (.aload_n 1, 1) := by decide +kernel
theorem dX1_distribute_67 : decode cX1_distribute 67 = .ok (.iload_n 2, 1) := by decide +kernel
theorem dX1_distribute_68 : decode cX1_distribute 68 = .ok (.invokevirtual 57, 3) := by decide +kernel
theorem dX1_distribute_71 : decode cX1_distribute 71 = .ok (.ifCond .eq 9, 3) := by decide +kernel
theorem dX1_distribute_74 : decode cX1_distribute 74 = .ok (.aload_n 0, 1) := by decide +kernel
theorem dX1_distribute_75 : decode cX1_distribute 75 = .ok (.aload_n 1, 1) := by decide +kernel
theorem dX1_distribute_76 : decode cX1_distribute 76 = .ok (.iload_n 2, 1) := by decide +kernel
theorem dX1_distribute_77 : decode cX1_distribute 77 = .ok (.invokevirtual 61, 3) := by decide +kernel
theorem dX1_distribute_80 : decode cX1_distribute 80 = .ok (.iconst 0, 1) := by decide +kernel
theorem dX1_distribute_81 : decode cX1_distribute 81 = .ok (.istore_n 3, 1) := by decide +kernel
theorem dX1_distribute_82 : decode cX1_distribute 82 = .ok (.iload_n 3, 1) := by decide +kernel
theorem dX1_distribute_83 : decode cX1_distribute 83 = .ok (.aload_n 1, 1) := by decide +kernel
theorem dX1_distribute_84 : decode cX1_distribute 84 = .ok (.getfield 40, 3) := by decide +kernel
theorem dX1_distribute_87 : decode cX1_distribute 87 = .ok (.if_icmp .ge 30, 3) := by decide +kernel
theorem dX1_distribute_90 : decode cX1_distribute 90 = .ok (.aload_n 1, 1) := by decide +kernel
theorem dX1_distribute_91 : decode cX1_distribute 91 = .ok (.getfield 65, 3) := by decide +kernel
theorem dX1_distribute_94 : decode cX1_distribute 94 = .ok (.iload_n 3, 1) := by decide +kernel
theorem dX1_distribute_95 : decode cX1_distribute 95 = .ok (.iaload, 1) := by decide +kernel
theorem dX1_distribute_96 : decode cX1_distribute 96 = .ok (.istore 4, 2) := by decide +kernel
theorem dX1_distribute_98 : decode cX1_distribute 98 = .ok (.iload 4, 2) := by decide +kernel
theorem dX1_distribute_100 : decode cX1_distribute 100 = .ok (.iload_n 2, 1) := by decide +kernel
theorem dX1_distribute_101 : decode cX1_distribute 101 = .ok (.if_icmp .eq 10, 3) := by decide +kernel
theorem dX1_distribute_104 : decode cX1_distribute 104 = .ok (.aload_n 0, 1) := by decide +kernel
theorem dX1_distribute_105 : decode cX1_distribute 105 = .ok (.aload_n 1, 1) := by decide +kernel
theorem dX1_distribute_106 : decode cX1_distribute 106 = .ok (.iload 4, 2) := by decide +kernel
theorem dX1_distribute_108 : decode cX1_distribute 108 = .ok (.invokevirtual 61, 3) := by decide +kernel
theorem dX1_distribute_111 : decode cX1_distribute 111 = .ok (.iinc 3 1, 3) := by decide +kernel
theorem dX1_distribute_114 : decode cX1_distribute 114 = .ok (.goto (-32), 3) := by decide +kernel
theorem dX1_distribute_117 : decode cX1_distribute 117 = .ok (.return_, 1) := by decide +kernel
theorem dX1_isContent_0 : decode cX1_isContent 0 = .ok (.aload_n 0, 1) := by decide +kernel
theorem dX1_isContent_1 : decode cX1_isContent 1 = .ok (.getfield 15, 3) := by decide +kernel
theorem dX1_isContent_4 : decode cX1_isContent 4 = .ok (.iload_n 1, 1) := by decide +kernel
theorem dX1_isContent_5 : decode cX1_isContent 5 = .ok (.iaload, 1) := by decide +kernel
theorem dX1_isContent_6 : decode cX1_isContent 6 = .ok (.aload_n 0, 1) := by decide +kernel
theorem dX1_isContent_7 : decode cX1_isContent 7 = .ok (.getfield 9, 3) := by decide +kernel
theorem dX1_isContent_10 : decode cX1_isContent 10 = .ok (.iload_n 1, 1) := by decide +kernel
theorem dX1_isContent_11 : decode cX1_isContent 11 = .ok (.iaload, 1) := by decide +kernel
theorem dX1_isContent_12 : decode cX1_isContent 12 = .ok (.if_icmp .ne 7, 3) := by decide +kernel
theorem dX1_isContent_15 : decode cX1_isContent 15 = .ok (.iconst 1, 1) := by decide +kernel
theorem dX1_isContent_16 : decode cX1_isContent 16 = .ok (.goto 4, 3) := by decide +kernel
theorem dX1_isContent_19 : decode cX1_isContent 19 = .ok (.iconst 0, 1) := by decide +kernel
theorem dX1_isContent_20 : decode cX1_isContent 20 = .ok (.ireturn, 1) := by decide +kernel
theorem dX1_lostIn_0 : decode cX1_lostIn 0 = .ok (.aload_n 0, 1) := by decide +kernel
theorem dX1_lostIn_1 : decode cX1_lostIn 1 = .ok (.getfield 18, 3) := by decide +kernel
theorem dX1_lostIn_4 : decode cX1_lostIn 4 = .ok (.iload_n 1, 1) := by decide +kernel
theorem dX1_lostIn_5 : decode cX1_lostIn 5 = .ok (.iaload, 1) := by decide +kernel
theorem dX1_lostIn_6 : decode cX1_lostIn 6 = .ok (.aload_n 0, 1) := by decide +kernel
theorem dX1_lostIn_7 : decode cX1_lostIn 7 = .ok (.getfield 21, 3) := by decide +kernel
theorem dX1_lostIn_10 : decode cX1_lostIn 10 = .ok (.iload_n 1, 1) := by decide +kernel
theorem dX1_lostIn_11 : decode cX1_lostIn 11 = .ok (.iaload, 1) := by decide +kernel
theorem dX1_lostIn_12 : decode cX1_lostIn 12 = .ok (.isub, 1) := by decide +kernel
theorem dX1_lostIn_13 : decode cX1_lostIn 13 = .ok (.ireturn, 1) := by decide +kernel
theorem dX1_unitsGot_0 : decode cX1_unitsGot 0 = .ok (.iconst 0, 1) := by decide +kernel
theorem dX1_unitsGot_1 : decode cX1_unitsGot 1 = .ok (.istore_n 2, 1) := by decide +kernel
theorem dX1_unitsGot_2 : decode cX1_unitsGot 2 = .ok (.iconst 0, 1) := by decide +kernel
theorem dX1_unitsGot_3 : decode cX1_unitsGot 3 = .ok (.istore_n 3, 1) := by decide +kernel
theorem dX1_unitsGot_4 : decode cX1_unitsGot 4 = .ok (.iload_n 3, 1) := by decide +kernel
theorem dX1_unitsGot_5 : decode cX1_unitsGot 5 = .ok (.aload_n 1, 1) := by decide +kernel
theorem dX1_unitsGot_6 : decode cX1_unitsGot 6 = .ok (.getfield 40, 3) := by decide +kernel
theorem dX1_unitsGot_9 : decode cX1_unitsGot 9 = .ok (.if_icmp .ge 18, 3) := by decide +kernel
theorem dX1_unitsGot_12 : decode cX1_unitsGot 12 = .ok (.iload_n 2, 1) := by decide +kernel
theorem dX1_unitsGot_13 : decode cX1_unitsGot 13 = .ok (.aload_n 0, 1) := by decide +kernel
theorem dX1_unitsGot_14 : decode cX1_unitsGot 14 = .ok (.getfield 15, 3) := by decide +kernel
theorem dX1_unitsGot_17 : decode cX1_unitsGot 17 = .ok (.iload_n 3, 1) := by decide +kernel
theorem dX1_unitsGot_18 : decode cX1_unitsGot 18 = .ok (.iaload, 1) := by decide +kernel
theorem dX1_unitsGot_19 : decode cX1_unitsGot 19 = .ok (.iadd, 1) := by decide +kernel
theorem dX1_unitsGot_20 : decode cX1_unitsGot 20 = .ok (.istore_n 2, 1) := by decide +kernel
theorem dX1_unitsGot_21 : decode cX1_unitsGot 21 = .ok (.iinc 3 1, 3) := by decide +kernel
theorem dX1_unitsGot_24 : decode cX1_unitsGot 24 = .ok (.goto (-20), 3) := by decide +kernel
theorem dX1_unitsGot_27 : decode cX1_unitsGot 27 = .ok (.iload_n 2, 1) := by decide +kernel
theorem dX1_unitsGot_28 : decode cX1_unitsGot 28 = .ok (.ireturn, 1) := by decide +kernel
set_option maxRecDepth 20000 in
theorem ggX1_ditchAgainstOneMore_X1_spread : GoodIn wsX1_ditchAgainstOneMore wsX1_spread := goodIn_r _ [13, 4, 14, 15, 2, 3, 1, 5, 6, 8, 16, 17, 18, 19, 20, 21, 28, 29, 30, 31, 32, 33, 34, 35, 36, 37, 22, 23, 24, 25, 26, 27, 38, 39, 40, 41, 42, 43, 44, 45, 46, 47, 48, 49, 50, 51, 52] (by decide +kernel) (by decide +kernel)
set_option maxRecDepth 20000 in
theorem gX1_ditchAgainstOneMore_X1_spread : GoodIn wsX1_ditchAgainstOneMore (wsV RX1 54 RX1 yX1_spread wsX1_spread) := goodIn_app (goodIn_of _ (by decide +kernel)) ggX1_ditchAgainstOneMore_X1_spread
theorem dX1_ditchAgainstOneMore_0 : decode cX1_ditchAgainstOneMore 0 = .ok (.aload_n 0, 1) := by decide +kernel
theorem dX1_ditchAgainstOneMore_1 : decode cX1_ditchAgainstOneMore 1 = .ok (.getfield 15, 3) := by decide +kernel
theorem dX1_ditchAgainstOneMore_4 : decode cX1_ditchAgainstOneMore 4 = .ok (.iload_n 2, 1) := by decide +kernel
theorem dX1_ditchAgainstOneMore_5 : decode cX1_ditchAgainstOneMore 5 = .ok (.dup2, 1) := by decide +kernel
theorem dX1_ditchAgainstOneMore_6 : decode cX1_ditchAgainstOneMore 6 = .ok (.iaload, 1) := by decide +kernel
theorem dX1_ditchAgainstOneMore_7 : decode cX1_ditchAgainstOneMore 7 = .ok (.iconst 1, 1) := by decide +kernel
theorem dX1_ditchAgainstOneMore_8 : decode cX1_ditchAgainstOneMore 8 = .ok (.iadd, 1) := by decide +kernel
theorem dX1_ditchAgainstOneMore_9 : decode cX1_ditchAgainstOneMore 9 = .ok (.iastore, 1) := by decide +kernel
theorem dX1_ditchAgainstOneMore_10 : decode cX1_ditchAgainstOneMore 10 = .ok (.aload_n 0, 1) := by decide +kernel
theorem dX1_ditchAgainstOneMore_11 : decode cX1_ditchAgainstOneMore 11 = .ok (.aload_n 1, 1) := by decide +kernel
theorem dX1_ditchAgainstOneMore_12 : decode cX1_ditchAgainstOneMore 12 = .ok (.invokevirtual 54, 3) := by decide +kernel
theorem dX1_ditchAgainstOneMore_15 : decode cX1_ditchAgainstOneMore 15 = .ok (.aload_n 1, 1) := by decide +kernel
theorem dX1_ditchAgainstOneMore_16 : decode cX1_ditchAgainstOneMore 16 = .ok (.getfield 68, 3) := by decide +kernel
theorem dX1_ditchAgainstOneMore_19 : decode cX1_ditchAgainstOneMore 19 = .ok (.iload_n 2, 1) := by decide +kernel
theorem dX1_ditchAgainstOneMore_20 : decode cX1_ditchAgainstOneMore 20 = .ok (.aaload, 1) := by decide +kernel
theorem dX1_ditchAgainstOneMore_21 : decode cX1_ditchAgainstOneMore 21 = .ok (.getfield 72, 3) := by decide +kernel
theorem dX1_ditchAgainstOneMore_24 : decode cX1_ditchAgainstOneMore 24 = .ok (.istore_n 3, 1) := by decide +kernel
theorem dX1_ditchAgainstOneMore_25 : decode cX1_ditchAgainstOneMore 25 = .ok (.iconst 0, 1) := by decide +kernel
theorem dX1_ditchAgainstOneMore_26 : decode cX1_ditchAgainstOneMore 26 = .ok (.istore 4, 2) := by decide +kernel
theorem dX1_ditchAgainstOneMore_28 : decode cX1_ditchAgainstOneMore 28 = .ok (.iload 4, 2) := by decide +kernel
theorem dX1_ditchAgainstOneMore_30 : decode cX1_ditchAgainstOneMore 30 = .ok (.aload_n 1, 1) := by decide +kernel
theorem dX1_ditchAgainstOneMore_31 : decode cX1_ditchAgainstOneMore 31 = .ok (.getfield 77, 3) := by decide +kernel
theorem dX1_ditchAgainstOneMore_34 : decode cX1_ditchAgainstOneMore 34 = .ok (.if_icmp .ge 39, 3) := by decide +kernel
theorem dX1_ditchAgainstOneMore_37 : decode cX1_ditchAgainstOneMore 37 = .ok (.aload_n 0, 1) := by decide +kernel
theorem dX1_ditchAgainstOneMore_38 : decode cX1_ditchAgainstOneMore 38 = .ok (.getfield 18, 3) := by decide +kernel
theorem dX1_ditchAgainstOneMore_41 : decode cX1_ditchAgainstOneMore 41 = .ok (.iload_n 3, 1) := by decide +kernel
theorem dX1_ditchAgainstOneMore_42 : decode cX1_ditchAgainstOneMore 42 = .ok (.iaload, 1) := by decide +kernel
theorem dX1_ditchAgainstOneMore_43 : decode cX1_ditchAgainstOneMore 43 = .ok (.aload_n 1, 1) := by decide +kernel
theorem dX1_ditchAgainstOneMore_44 : decode cX1_ditchAgainstOneMore 44 = .ok (.getfield 80, 3) := by decide +kernel
theorem dX1_ditchAgainstOneMore_47 : decode cX1_ditchAgainstOneMore 47 = .ok (.iload_n 3, 1) := by decide +kernel
theorem dX1_ditchAgainstOneMore_48 : decode cX1_ditchAgainstOneMore 48 = .ok (.aaload, 1) := by decide +kernel
theorem dX1_ditchAgainstOneMore_49 : decode cX1_ditchAgainstOneMore 49 = .ok (.getfield 83, 3) := by decide +kernel
theorem dX1_ditchAgainstOneMore_52 : decode cX1_ditchAgainstOneMore 52 = .ok (.if_icmp .le 5, 3) := by decide +kernel
theorem dX1_ditchAgainstOneMore_55 : decode cX1_ditchAgainstOneMore 55 = .ok (.iload_n 3, 1) := by decide +kernel
theorem dX1_ditchAgainstOneMore_56 : decode cX1_ditchAgainstOneMore 56 = .ok (.ireturn, 1) := by decide +kernel
theorem dX1_ditchAgainstOneMore_57 : decode cX1_ditchAgainstOneMore 57 = .ok (.aload_n 1, 1) := by decide +kernel
theorem dX1_ditchAgainstOneMore_58 : decode cX1_ditchAgainstOneMore 58 = .ok (.getfield 80, 3) := by decide +kernel
theorem dX1_ditchAgainstOneMore_61 : decode cX1_ditchAgainstOneMore 61 = .ok (.iload_n 3, 1) := by decide +kernel
theorem dX1_ditchAgainstOneMore_62 : decode cX1_ditchAgainstOneMore 62 = .ok (.aaload, 1) := by decide +kernel
theorem dX1_ditchAgainstOneMore_63 : decode cX1_ditchAgainstOneMore 63 = .ok (.getfield 88, 3) := by decide +kernel
theorem dX1_ditchAgainstOneMore_66 : decode cX1_ditchAgainstOneMore 66 = .ok (.istore_n 3, 1) := by decide +kernel
theorem dX1_ditchAgainstOneMore_67 : decode cX1_ditchAgainstOneMore 67 = .ok (.iinc 4 1, 3) := by decide +kernel
theorem dX1_ditchAgainstOneMore_70 : decode cX1_ditchAgainstOneMore 70 = .ok (.goto (-42), 3) := by decide +kernel
theorem dX1_ditchAgainstOneMore_73 : decode cX1_ditchAgainstOneMore 73 = .ok (.bipush (-105), 2) := by decide +kernel
theorem dX1_ditchAgainstOneMore_75 : decode cX1_ditchAgainstOneMore 75 = .ok (.ireturn, 1) := by decide +kernel
set_option maxRecDepth 20000 in
theorem ggX1_giveGreatestShares_X1_giveShares : GoodIn wsX1_giveGreatestShares wsX1_giveShares := goodIn_r _ [5, 6, 7, 8, 32, 33, 34, 35, 36, 37, 38, 39, 40, 41, 42, 43, 44, 45, 46, 47] (by decide +kernel) (by decide +kernel)
set_option maxRecDepth 20000 in
theorem gX1_giveGreatestShares_X1_giveShares : GoodIn wsX1_giveGreatestShares (wsV RX1 91 RX1 yX1_giveShares wsX1_giveShares) := goodIn_app (goodIn_of _ (by decide +kernel)) ggX1_giveGreatestShares_X1_giveShares
set_option maxRecDepth 20000 in
theorem ggX1_giveGreatestShares_X1_spread : GoodIn wsX1_giveGreatestShares wsX1_spread := goodIn_r _ [12, 13, 14, 6, 15, 16, 7, 17, 18, 19, 20, 21, 22, 23, 24, 25, 32, 33, 34, 35, 36, 37, 38, 39, 40, 41, 42, 43, 44, 45, 46, 47, 48, 49, 50, 51, 52, 53, 54, 55, 56, 57, 58, 59, 60, 61, 62] (by decide +kernel) (by decide +kernel)
set_option maxRecDepth 20000 in
theorem gX1_giveGreatestShares_X1_spread : GoodIn wsX1_giveGreatestShares (wsV RX1 54 RX1 yX1_spread wsX1_spread) := goodIn_app (goodIn_of _ (by decide +kernel)) ggX1_giveGreatestShares_X1_spread
set_option maxRecDepth 20000 in
theorem ggX1_giveGreatestShares_X1_isPossible : GoodIn wsX1_giveGreatestShares wsX1_isPossible := goodIn_r _ [29, 17, 30, 13, 18, 31, 42, 43, 44, 45, 46, 47, 32, 33, 34, 35, 36, 37, 38, 39, 40, 41, 60, 61, 62] (by decide +kernel) (by decide +kernel)
set_option maxRecDepth 20000 in
theorem gX1_giveGreatestShares_X1_isPossible : GoodIn wsX1_giveGreatestShares (wsV RX1 94 RX1 yX1_isPossible wsX1_isPossible) := goodIn_app (goodIn_of _ (by decide +kernel)) ggX1_giveGreatestShares_X1_isPossible
theorem dX1_giveGreatestShares_0 : decode cX1_giveGreatestShares 0 = .ok (.iconst 0, 1) := by decide +kernel
theorem dX1_giveGreatestShares_1 : decode cX1_giveGreatestShares 1 = .ok (.istore_n 2, 1) := by decide +kernel
theorem dX1_giveGreatestShares_2 : decode cX1_giveGreatestShares 2 = .ok (.bipush 64, 2) := by decide +kernel
theorem dX1_giveGreatestShares_4 : decode cX1_giveGreatestShares 4 = .ok (.istore_n 3, 1) := by decide +kernel
theorem dX1_giveGreatestShares_5 : decode cX1_giveGreatestShares 5 = .ok (.iload_n 3, 1) := by decide +kernel
theorem dX1_giveGreatestShares_6 : decode cX1_giveGreatestShares 6 = .ok (.ifCond .le 43, 3) := by decide +kernel
theorem dX1_giveGreatestShares_9 : decode cX1_giveGreatestShares 9 = .ok (.iload_n 2, 1) := by decide +kernel
theorem dX1_giveGreatestShares_10 : decode cX1_giveGreatestShares 10 = .ok (.iload_n 3, 1) := by decide +kernel
theorem dX1_giveGreatestShares_11 : decode cX1_giveGreatestShares 11 = .ok (.iadd, 1) := by decide +kernel
theorem dX1_giveGreatestShares_12 : decode cX1_giveGreatestShares 12 = .ok (.bipush 100, 2) := by decide +kernel
theorem dX1_giveGreatestShares_14 : decode cX1_giveGreatestShares 14 = .ok (.if_icmp .gt 28, 3) := by decide +kernel
theorem dX1_giveGreatestShares_17 : decode cX1_giveGreatestShares 17 = .ok (.aload_n 0, 1) := by decide +kernel
theorem dX1_giveGreatestShares_18 : decode cX1_giveGreatestShares 18 = .ok (.aload_n 1, 1) := by decide +kernel
theorem dX1_giveGreatestShares_19 : decode cX1_giveGreatestShares 19 = .ok (.iload_n 2, 1) := by decide +kernel
theorem dX1_giveGreatestShares_20 : decode cX1_giveGreatestShares 20 = .ok (.iload_n 3, 1) := by decide +kernel
theorem dX1_giveGreatestShares_21 : decode cX1_giveGreatestShares 21 = .ok (.iadd, 1) := by decide +kernel
theorem dX1_giveGreatestShares_22 : decode cX1_giveGreatestShares 22 = .ok (.invokevirtual 91, 3) := by decide +kernel
theorem dX1_giveGreatestShares_25 : decode cX1_giveGreatestShares 25 = .ok (.aload_n 0, 1) := by decide +kernel
theorem dX1_giveGreatestShares_26 : decode cX1_giveGreatestShares 26 = .ok (.aload_n 1, 1) := by decide +kernel
theorem dX1_giveGreatestShares_27 : decode cX1_giveGreatestShares 27 = .ok (.invokevirtual 54, 3) := by decide +kernel
theorem dX1_giveGreatestShares_30 : decode cX1_giveGreatestShares 30 = .ok (.aload_n 0, 1) := by decide +kernel
theorem dX1_giveGreatestShares_31 : decode cX1_giveGreatestShares 31 = .ok (.aload_n 1, 1) := by decide +kernel
theorem dX1_giveGreatestShares_32 : decode cX1_giveGreatestShares 32 = .ok (.invokevirtual 94, 3) := by decide +kernel
theorem dX1_giveGreatestShares_35 : decode cX1_giveGreatestShares 35 = .ok (.ifCond .eq 7, 3) := by decide +kernel
theorem dX1_giveGreatestShares_38 : decode cX1_giveGreatestShares 38 = .ok (.iload_n 2, 1) := by decide +kernel
theorem dX1_giveGreatestShares_39 : decode cX1_giveGreatestShares 39 = .ok (.iload_n 3, 1) := by decide +kernel
theorem dX1_giveGreatestShares_40 : decode cX1_giveGreatestShares 40 = .ok (.iadd, 1) := by decide +kernel
theorem dX1_giveGreatestShares_41 : decode cX1_giveGreatestShares 41 = .ok (.istore_n 2, 1) := by decide +kernel
theorem dX1_giveGreatestShares_42 : decode cX1_giveGreatestShares 42 = .ok (.iload_n 3, 1) := by decide +kernel
theorem dX1_giveGreatestShares_43 : decode cX1_giveGreatestShares 43 = .ok (.iconst 2, 1) := by decide +kernel
theorem dX1_giveGreatestShares_44 : decode cX1_giveGreatestShares 44 = .ok (.idiv, 1) := by decide +kernel
theorem dX1_giveGreatestShares_45 : decode cX1_giveGreatestShares 45 = .ok (.istore_n 3, 1) := by decide +kernel
theorem dX1_giveGreatestShares_46 : decode cX1_giveGreatestShares 46 = .ok (.goto (-41), 3) := by decide +kernel
theorem dX1_giveGreatestShares_49 : decode cX1_giveGreatestShares 49 = .ok (.aload_n 0, 1) := by decide +kernel
theorem dX1_giveGreatestShares_50 : decode cX1_giveGreatestShares 50 = .ok (.aload_n 1, 1) := by decide +kernel
theorem dX1_giveGreatestShares_51 : decode cX1_giveGreatestShares 51 = .ok (.iload_n 2, 1) := by decide +kernel
theorem dX1_giveGreatestShares_52 : decode cX1_giveGreatestShares 52 = .ok (.invokevirtual 91, 3) := by decide +kernel
theorem dX1_giveGreatestShares_55 : decode cX1_giveGreatestShares 55 = .ok (.return_, 1) := by decide +kernel
theorem dX1_isPossible_0 : decode cX1_isPossible 0 = .ok (.aload_n 0, 1) := by decide +kernel
theorem dX1_isPossible_1 : decode cX1_isPossible 1 = .ok (.getfield 18, 3) := by decide +kernel
theorem dX1_isPossible_4 : decode cX1_isPossible 4 = .ok (.iconst 0, 1) := by decide +kernel
theorem dX1_isPossible_5 : decode cX1_isPossible 5 = .ok (.iaload, 1) := by decide +kernel
theorem dX1_isPossible_6 : decode cX1_isPossible 6 = .ok (.aload_n 0, 1) := by decide +kernel
theorem dX1_isPossible_7 : decode cX1_isPossible 7 = .ok (.getfield 33, 3) := by decide +kernel
theorem dX1_isPossible_10 : decode cX1_isPossible 10 = .ok (.if_icmp .le 5, 3) := by decide +kernel
theorem dX1_isPossible_13 : decode cX1_isPossible 13 = .ok (.iconst 0, 1) := by decide +kernel
theorem dX1_isPossible_14 : decode cX1_isPossible 14 = .ok (.ireturn, 1) := by decide +kernel
theorem dX1_isPossible_15 : decode cX1_isPossible 15 = .ok (.iconst 0, 1) := by decide +kernel
theorem dX1_isPossible_16 : decode cX1_isPossible 16 = .ok (.istore_n 2, 1) := by decide +kernel
theorem dX1_isPossible_17 : decode cX1_isPossible 17 = .ok (.iload_n 2, 1) := by decide +kernel
theorem dX1_isPossible_18 : decode cX1_isPossible 18 = .ok (.aload_n 1, 1) := by decide +kernel
theorem dX1_isPossible_19 : decode cX1_isPossible 19 = .ok (.getfield 77, 3) := by decide +kernel
theorem dX1_isPossible_22 : decode cX1_isPossible 22 = .ok (.if_icmp .ge 29, 3) := by decide +kernel
theorem dX1_isPossible_25 : decode cX1_isPossible 25 = .ok (.aload_n 0, 1) := by decide +kernel
theorem dX1_isPossible_26 : decode cX1_isPossible 26 = .ok (.getfield 18, 3) := by decide +kernel
theorem dX1_isPossible_29 : decode cX1_isPossible 29 = .ok (.iload_n 2, 1) := by decide +kernel
theorem dX1_isPossible_30 : decode cX1_isPossible 30 = .ok (.iaload, 1) := by decide +kernel
theorem dX1_isPossible_31 : decode cX1_isPossible 31 = .ok (.aload_n 1, 1) := by decide +kernel
theorem dX1_isPossible_32 : decode cX1_isPossible 32 = .ok (.getfield 80, 3) := by decide +kernel
theorem dX1_isPossible_35 : decode cX1_isPossible 35 = .ok (.iload_n 2, 1) := by decide +kernel
theorem dX1_isPossible_36 : decode cX1_isPossible 36 = .ok (.aaload, 1) := by decide +kernel
theorem dX1_isPossible_37 : decode cX1_isPossible 37 = .ok (.getfield 83, 3) := by decide +kernel
theorem dX1_isPossible_40 : decode cX1_isPossible 40 = .ok (.if_icmp .le 5, 3) := by decide +kernel
theorem dX1_isPossible_43 : decode cX1_isPossible 43 = .ok (.iconst 0, 1) := by decide +kernel
theorem dX1_isPossible_44 : decode cX1_isPossible 44 = .ok (.ireturn, 1) := by decide +kernel
theorem dX1_isPossible_45 : decode cX1_isPossible 45 = .ok (.iinc 2 1, 3) := by decide +kernel
theorem dX1_isPossible_48 : decode cX1_isPossible 48 = .ok (.goto (-31), 3) := by decide +kernel
theorem dX1_isPossible_51 : decode cX1_isPossible 51 = .ok (.iconst 1, 1) := by decide +kernel
theorem dX1_isPossible_52 : decode cX1_isPossible 52 = .ok (.ireturn, 1) := by decide +kernel
theorem dX1_giveShares_0 : decode cX1_giveShares 0 = .ok (.iconst 0, 1) := by decide +kernel
theorem dX1_giveShares_1 : decode cX1_giveShares 1 = .ok (.istore_n 3, 1) := by decide +kernel
theorem dX1_giveShares_2 : decode cX1_giveShares 2 = .ok (.iload_n 3, 1) := by decide +kernel
theorem dX1_giveShares_3 : decode cX1_giveShares 3 = .ok (.aload_n 1, 1) := by decide +kernel
theorem dX1_giveShares_4 : decode cX1_giveShares 4 = .ok (.getfield 40, 3) := by decide +kernel
theorem dX1_giveShares_7 : decode cX1_giveShares 7 = .ok (.if_icmp .ge 26, 3) := by decide +kernel
theorem dX1_giveShares_10 : decode cX1_giveShares 10 = .ok (.aload_n 0, 1) := by decide +kernel
theorem dX1_giveShares_11 : decode cX1_giveShares 11 = .ok (.getfield 15, 3) := by decide +kernel
theorem dX1_giveShares_14 : decode cX1_giveShares 14 = .ok (.iload_n 3, 1) := by decide +kernel
theorem dX1_giveShares_15 : decode cX1_giveShares 15 = .ok (.aload_n 0, 1) := by decide +kernel
theorem dX1_giveShares_16 : decode cX1_giveShares 16 = .ok (.getfield 9, 3) := by decide +kernel
theorem dX1_giveShares_19 : decode cX1_giveShares 19 = .ok (.iload_n 3, 1) := by decide +kernel
theorem dX1_giveShares_20 : decode cX1_giveShares 20 = .ok (.iaload, 1) := by decide +kernel
theorem dX1_giveShares_21 : decode cX1_giveShares 21 = .ok (.iload_n 2, 1) := by decide +kernel
theorem dX1_giveShares_22 : decode cX1_giveShares 22 = .ok (.imul, 1) := by decide +kernel
theorem dX1_giveShares_23 : decode cX1_giveShares 23 = .ok (.bipush 100, 2) := by decide +kernel
theorem dX1_giveShares_25 : decode cX1_giveShares 25 = .ok (.idiv, 1) := by decide +kernel
theorem dX1_giveShares_26 : decode cX1_giveShares 26 = .ok (.iastore, 1) := by decide +kernel
theorem dX1_giveShares_27 : decode cX1_giveShares 27 = .ok (.iinc 3 1, 3) := by decide +kernel
theorem dX1_giveShares_30 : decode cX1_giveShares 30 = .ok (.goto (-28), 3) := by decide +kernel
theorem dX1_giveShares_33 : decode cX1_giveShares 33 = .ok (.return_, 1) := by decide +kernel
set_option maxRecDepth 20000 in
theorem ggX1_spread_X0_inflowFor : GoodIn wsX1_spread wsX0_inflowFor := goodIn_r _ [14, 15, 44, 45, 46] (by decide +kernel) (by decide +kernel)
set_option maxRecDepth 20000 in
theorem gX1_spread_X0_inflowFor : GoodIn wsX1_spread (wsV RX1 98 RX0 yX0_inflowFor wsX0_inflowFor) := goodIn_app (goodIn_of _ (by decide +kernel)) ggX1_spread_X0_inflowFor
theorem dX1_spread_0 : decode cX1_spread 0 = .ok (.iconst 0, 1) := by decide +kernel
theorem dX1_spread_1 : decode cX1_spread 1 = .ok (.istore_n 2, 1) := by decide +kernel
theorem dX1_spread_2 : decode cX1_spread 2 = .ok (.iload_n 2, 1) := by decide +kernel
theorem dX1_spread_3 : decode cX1_spread 3 = .ok (.aload_n 1, 1) := by decide +kernel
theorem dX1_spread_4 : decode cX1_spread 4 = .ok (.getfield 77, 3) := by decide +kernel
theorem dX1_spread_7 : decode cX1_spread 7 = .ok (.if_icmp .ge 16, 3) := by decide +kernel
theorem dX1_spread_10 : decode cX1_spread 10 = .ok (.aload_n 0, 1) := by decide +kernel
theorem dX1_spread_11 : decode cX1_spread 11 = .ok (.getfield 21, 3) := by decide +kernel
theorem dX1_spread_14 : decode cX1_spread 14 = .ok (.iload_n 2, 1) := by decide +kernel
theorem dX1_spread_15 : decode cX1_spread 15 = .ok (.iconst 0, 1) := by decide +kernel
theorem dX1_spread_16 : decode cX1_spread 16 = .ok (.iastore, 1) := by decide +kernel
theorem dX1_spread_17 : decode cX1_spread 17 = .ok (.iinc 2 1, 3) := by decide +kernel
theorem dX1_spread_20 : decode cX1_spread 20 = .ok (.goto (-18), 3) := by decide +kernel
theorem dX1_spread_23 : decode cX1_spread 23 = .ok (.iconst 0, 1) := by decide +kernel
theorem dX1_spread_24 : decode cX1_spread 24 = .ok (.istore_n 2, 1) := by decide +kernel
theorem dX1_spread_25 : decode cX1_spread 25 = .ok (.iload_n 2, 1) := by decide +kernel
theorem dX1_spread_26 : decode cX1_spread 26 = .ok (.aload_n 1, 1) := by decide +kernel
theorem dX1_spread_27 : decode cX1_spread 27 = .ok (.getfield 40, 3) := by decide +kernel
theorem dX1_spread_30 : decode cX1_spread 30 = .ok (.if_icmp .ge 32, 3) := by decide +kernel
theorem dX1_spread_33 : decode cX1_spread 33 = .ok (.aload_n 0, 1) := by decide +kernel
theorem dX1_spread_34 : decode cX1_spread 34 = .ok (.getfield 21, 3) := by decide +kernel
theorem dX1_spread_37 : decode cX1_spread 37 = .ok (.aload_n 1, 1) := by decide +kernel
theorem dX1_spread_38 : decode cX1_spread 38 = .ok (.getfield 68, 3) := by decide +kernel
theorem dX1_spread_41 : decode cX1_spread 41 = .ok (.iload_n 2, 1) := by decide +kernel
theorem dX1_spread_42 : decode cX1_spread 42 = .ok (.aaload, 1) := by decide +kernel
theorem dX1_spread_43 : decode cX1_spread 43 = .ok (.getfield 72, 3) := by decide +kernel
theorem dX1_spread_46 : decode cX1_spread 46 = .ok (.dup2, 1) := by decide +kernel
theorem dX1_spread_47 : decode cX1_spread 47 = .ok (.iaload, 1) := by decide +kernel
theorem dX1_spread_48 : decode cX1_spread 48 = .ok (.aload_n 0, 1) := by decide +kernel
theorem dX1_spread_49 : decode cX1_spread 49 = .ok (.getfield 15, 3) := by decide +kernel
theorem dX1_spread_52 : decode cX1_spread 52 = .ok (.iload_n 2, 1) := by decide +kernel
theorem dX1_spread_53 : decode cX1_spread 53 = .ok (.iaload, 1) := by decide +kernel
theorem dX1_spread_54 : decode cX1_spread 54 = .ok (.iadd, 1) := by decide +kernel
theorem dX1_spread_55 : decode cX1_spread 55 = .ok (.iastore, 1) := by decide +kernel
theorem dX1_spread_56 : decode cX1_spread 56 = .ok (.iinc 2 1, 3) := by decide +kernel
theorem dX1_spread_59 : decode cX1_spread 59 = .ok (.goto (-34), 3) := by decide +kernel
theorem dX1_spread_62 : decode cX1_spread 62 = .ok (.aload_n 1, 1) := by decide +kernel
theorem dX1_spread_63 : decode cX1_spread 63 = .ok (.getfield 77, 3) := by decide +kernel
theorem dX1_spread_66 : decode cX1_spread 66 = .ok (.iconst 1, 1) := by decide +kernel
theorem dX1_spread_67 : decode cX1_spread 67 = .ok (.isub, 1) := by decide +kernel
theorem dX1_spread_68 : decode cX1_spread 68 = .ok (.istore_n 2, 1) := by decide +kernel
theorem dX1_spread_69 : decode cX1_spread 69 = .ok (.iload_n 2, 1) := by decide +kernel
theorem dX1_spread_70 : decode cX1_spread 70 = .ok (.ifCond .lt 57, 3) := by decide +kernel
theorem dX1_spread_73 : decode cX1_spread 73 = .ok (.aload_n 0, 1) := by decide +kernel
theorem dX1_spread_74 : decode cX1_spread 74 = .ok (.getfield 18, 3) := by decide +kernel
theorem dX1_spread_77 : decode cX1_spread 77 = .ok (.iload_n 2, 1) := by decide +kernel
theorem dX1_spread_78 : decode cX1_spread 78 = .ok (.aload_n 1, 1) := by decide +kernel
theorem dX1_spread_79 : decode cX1_spread 79 = .ok (.getfield 80, 3) := by decide +kernel
theorem dX1_spread_82 : decode cX1_spread 82 = .ok (.iload_n 2, 1) := by decide +kernel
theorem dX1_spread_83 : decode cX1_spread 83 = .ok (.aaload, 1) := by decide +kernel
theorem dX1_spread_84 : decode cX1_spread 84 = .ok (.aload_n 0, 1) := by decide +kernel
theorem dX1_spread_85 : decode cX1_spread 85 = .ok (.getfield 21, 3) := by decide +kernel
theorem dX1_spread_88 : decode cX1_spread 88 = .ok (.iload_n 2, 1) := by decide +kernel
theorem dX1_spread_89 : decode cX1_spread 89 = .ok (.iaload, 1) := by decide +kernel
theorem dX1_spread_90 : decode cX1_spread 90 = .ok (.invokevirtual 98, 3) := by decide +kernel
theorem dX1_spread_93 : decode cX1_spread 93 = .ok (.iastore, 1) := by decide +kernel
theorem dX1_spread_94 : decode cX1_spread 94 = .ok (.iload_n 2, 1) := by decide +kernel
theorem dX1_spread_95 : decode cX1_spread 95 = .ok (.ifCond .le 26, 3) := by decide +kernel
theorem dX1_spread_98 : decode cX1_spread 98 = .ok (.aload_n 0, 1) := by decide +kernel
theorem dX1_spread_99 : decode cX1_spread 99 = .ok (.getfield 21, 3) := by decide +kernel
theorem dX1_spread_102 : decode cX1_spread 102 = .ok (.aload_n 1, 1) := by decide +kernel
theorem dX1_spread_103 : decode cX1_spread 103 = .ok (.getfield 80, 3) := by decide +kernel
theorem dX1_spread_106 : decode cX1_spread 106 = .ok (.iload_n 2, 1) := by decide +kernel
theorem dX1_spread_107 : decode cX1_spread 107 = .ok (.aaload, 1) := by decide +kernel
theorem dX1_spread_108 : decode cX1_spread 108 = .ok (.getfield 88, 3) := by decide +kernel
theorem dX1_spread_111 : decode cX1_spread 111 = .ok (.dup2, 1) := by decide +kernel
theorem dX1_spread_112 : decode cX1_spread 112 = .ok (.iaload, 1) := by decide +kernel
theorem dX1_spread_113 : decode cX1_spread 113 = .ok (.aload_n 0, 1) := by decide +kernel
theorem dX1_spread_114 : decode cX1_spread 114 = .ok (.getfield 18, 3) := by decide +kernel
theorem dX1_spread_117 : decode cX1_spread 117 = .ok (.iload_n 2, 1) := by decide +kernel
theorem dX1_spread_118 : decode cX1_spread 118 = .ok (.iaload, 1) := by decide +kernel
theorem dX1_spread_119 : decode cX1_spread 119 = .ok (.iadd, 1) := by decide +kernel
theorem dX1_spread_120 : decode cX1_spread 120 = .ok (.iastore, 1) := by decide +kernel
theorem dX1_spread_121 : decode cX1_spread 121 = .ok (.iinc 2 (-1), 3) := by decide +kernel
theorem dX1_spread_124 : decode cX1_spread 124 = .ok (.goto (-55), 3) := by decide +kernel
theorem dX1_spread_127 : decode cX1_spread 127 = .ok (.return_, 1) := by decide +kernel
set_option maxRecDepth 20000 in
theorem ggX1_serve_X1_mostFor : GoodIn wsX1_serve wsX1_mostFor := goodIn_r _ [11, 12, 13, 14, 15, 2, 3, 4, 5, 16, 17, 18, 19, 20, 21, 6, 22, 23, 24, 25, 26, 27, 37, 38, 39, 40, 41, 42, 43, 44, 45, 46, 47, 48, 49, 50, 51, 52, 53, 54, 55, 56, 57, 58, 59, 60, 61, 62, 63, 64, 65, 66, 67] (by decide +kernel) (by decide +kernel)
set_option maxRecDepth 20000 in
theorem gX1_serve_X1_mostFor : GoodIn wsX1_serve (wsV RX1 102 RX1 yX1_mostFor wsX1_mostFor) := goodIn_app (goodIn_of _ (by decide +kernel)) ggX1_serve_X1_mostFor
set_option maxRecDepth 20000 in
theorem ggX1_serve_X1_spread : GoodIn wsX1_serve wsX1_spread := goodIn_r _ [31, 16, 18, 32, 20, 21, 6, 19, 13, 17, 33, 34, 35, 25, 36, 27, 43, 44, 45, 46, 47, 48, 49, 50, 51, 52, 37, 38, 39, 40, 41, 42, 56, 57, 58, 59, 60, 61, 62, 63, 64, 65, 66, 67, 53, 54, 55] (by decide +kernel) (by decide +kernel)
set_option maxRecDepth 20000 in
theorem gX1_serve_X1_spread : GoodIn wsX1_serve (wsV RX1 54 RX1 yX1_spread wsX1_spread) := goodIn_app (goodIn_of _ (by decide +kernel)) ggX1_serve_X1_spread
theorem dX1_serve_0 : decode cX1_serve 0 = .ok (.aload_n 0, 1) := by decide +kernel
theorem dX1_serve_1 : decode cX1_serve 1 = .ok (.getfield 9, 3) := by decide +kernel
theorem dX1_serve_4 : decode cX1_serve 4 = .ok (.iload_n 2, 1) := by decide +kernel
theorem dX1_serve_5 : decode cX1_serve 5 = .ok (.iaload, 1) := by decide +kernel
theorem dX1_serve_6 : decode cX1_serve 6 = .ok (.aload_n 0, 1) := by decide +kernel
theorem dX1_serve_7 : decode cX1_serve 7 = .ok (.aload_n 1, 1) := by decide +kernel
theorem dX1_serve_8 : decode cX1_serve 8 = .ok (.iload_n 2, 1) := by decide +kernel
theorem dX1_serve_9 : decode cX1_serve 9 = .ok (.invokevirtual 102, 3) := by decide +kernel
theorem dX1_serve_12 : decode cX1_serve 12 = .ok (.invokestatic 106, 3) := by decide +kernel
theorem dX1_serve_15 : decode cX1_serve 15 = .ok (.istore_n 3, 1) := by decide +kernel
theorem dX1_serve_16 : decode cX1_serve 16 = .ok (.iload_n 3, 1) := by decide +kernel
theorem dX1_serve_17 : decode cX1_serve 17 = .ok (.aload_n 0, 1) := by decide +kernel
theorem dX1_serve_18 : decode cX1_serve 18 = .ok (.getfield 15, 3) := by decide +kernel
theorem dX1_serve_21 : decode cX1_serve 21 = .ok (.iload_n 2, 1) := by decide +kernel
theorem dX1_serve_22 : decode cX1_serve 22 = .ok (.iaload, 1) := by decide +kernel
theorem dX1_serve_23 : decode cX1_serve 23 = .ok (.if_icmp .le 15, 3) := by decide +kernel
theorem dX1_serve_26 : decode cX1_serve 26 = .ok (.aload_n 0, 1) := by decide +kernel
theorem dX1_serve_27 : decode cX1_serve 27 = .ok (.getfield 15, 3) := by decide +kernel
theorem dX1_serve_30 : decode cX1_serve 30 = .ok (.iload_n 2, 1) := by decide +kernel
theorem dX1_serve_31 : decode cX1_serve 31 = .ok (.iload_n 3, 1) := by decide +kernel
theorem dX1_serve_32 : decode cX1_serve 32 = .ok (.iastore, 1) := by decide +kernel
theorem dX1_serve_33 : decode cX1_serve 33 = .ok (.aload_n 0, 1) := by decide +kernel
theorem dX1_serve_34 : decode cX1_serve 34 = .ok (.aload_n 1, 1) := by decide +kernel
theorem dX1_serve_35 : decode cX1_serve 35 = .ok (.invokevirtual 54, 3) := by decide +kernel
theorem dX1_serve_38 : decode cX1_serve 38 = .ok (.return_, 1) := by decide +kernel
set_option maxRecDepth 20000 in
theorem ggX1_mostFor_X0_passedOf : GoodIn wsX1_mostFor wsX0_passedOf := goodIn_r _ [20, 21, 38, 39, 40] (by decide +kernel) (by decide +kernel)
set_option maxRecDepth 20000 in
theorem gX1_mostFor_X0_passedOf : GoodIn wsX1_mostFor (wsV RX1 111 RX0 yX0_passedOf wsX0_passedOf) := goodIn_app (goodIn_of _ (by decide +kernel)) ggX1_mostFor_X0_passedOf
theorem dX1_mostFor_0 : decode cX1_mostFor 0 = .ok (.aload_n 0, 1) := by decide +kernel
theorem dX1_mostFor_1 : decode cX1_mostFor 1 = .ok (.getfield 24, 3) := by decide +kernel
theorem dX1_mostFor_4 : decode cX1_mostFor 4 = .ok (.iconst 0, 1) := by decide +kernel
theorem dX1_mostFor_5 : decode cX1_mostFor 5 = .ok (.aload_n 1, 1) := by decide +kernel
theorem dX1_mostFor_6 : decode cX1_mostFor 6 = .ok (.getfield 80, 3) := by decide +kernel
theorem dX1_mostFor_9 : decode cX1_mostFor 9 = .ok (.iconst 0, 1) := by decide +kernel
theorem dX1_mostFor_10 : decode cX1_mostFor 10 = .ok (.aaload, 1) := by decide +kernel
theorem dX1_mostFor_11 : decode cX1_mostFor 11 = .ok (.getfield 83, 3) := by decide +kernel
theorem dX1_mostFor_14 : decode cX1_mostFor 14 = .ok (.aload_n 0, 1) := by decide +kernel
theorem dX1_mostFor_15 : decode cX1_mostFor 15 = .ok (.getfield 33, 3) := by decide +kernel
theorem dX1_mostFor_18 : decode cX1_mostFor 18 = .ok (.invokestatic 106, 3) := by decide +kernel
theorem dX1_mostFor_21 : decode cX1_mostFor 21 = .ok (.iastore, 1) := by decide +kernel
theorem dX1_mostFor_22 : decode cX1_mostFor 22 = .ok (.iconst 1, 1) := by decide +kernel
theorem dX1_mostFor_23 : decode cX1_mostFor 23 = .ok (.istore_n 3, 1) := by decide +kernel
theorem dX1_mostFor_24 : decode cX1_mostFor 24 = .ok (.iload_n 3, 1) := by decide +kernel
theorem dX1_mostFor_25 : decode cX1_mostFor 25 = .ok (.aload_n 1, 1) := by decide +kernel
theorem dX1_mostFor_26 : decode cX1_mostFor 26 = .ok (.getfield 77, 3) := by decide +kernel
theorem dX1_mostFor_29 : decode cX1_mostFor 29 = .ok (.if_icmp .ge 74, 3) := by decide +kernel
theorem dX1_mostFor_32 : decode cX1_mostFor 32 = .ok (.aload_n 1, 1) := by decide +kernel
theorem dX1_mostFor_33 : decode cX1_mostFor 33 = .ok (.getfield 80, 3) := by decide +kernel
theorem dX1_mostFor_36 : decode cX1_mostFor 36 = .ok (.iload_n 3, 1) := by decide +kernel
theorem dX1_mostFor_37 : decode cX1_mostFor 37 = .ok (.aaload, 1) := by decide +kernel
theorem dX1_mostFor_38 : decode cX1_mostFor 38 = .ok (.getfield 88, 3) := by decide +kernel
theorem dX1_mostFor_41 : decode cX1_mostFor 41 = .ok (.istore 4, 2) := by decide +kernel
theorem dX1_mostFor_43 : decode cX1_mostFor 43 = .ok (.aload_n 1, 1) := by decide +kernel
theorem dX1_mostFor_44 : decode cX1_mostFor 44 = .ok (.getfield 80, 3) := by decide +kernel
theorem dX1_mostFor_47 : decode cX1_mostFor 47 = .ok (.iload 4, 2) := by decide +kernel
theorem dX1_mostFor_49 : decode cX1_mostFor 49 = .ok (.aaload, 1) := by decide +kernel
theorem dX1_mostFor_50 : decode cX1_mostFor 50 = .ok (.aload_n 0, 1) := by decide +kernel
theorem dX1_mostFor_51 : decode cX1_mostFor 51 = .ok (.getfield 24, 3) := by decide +kernel
theorem dX1_mostFor_54 : decode cX1_mostFor 54 = .ok (.iload 4, 2) := by decide +kernel
theorem dX1_mostFor_56 : decode cX1_mostFor 56 = .ok (.iaload, 1) := by decide +kernel
theorem dX1_mostFor_57 : decode cX1_mostFor 57 = .ok (.invokevirtual 111, 3) := by decide +kernel
theorem dX1_mostFor_60 : decode cX1_mostFor 60 = .ok (.aload_n 0, 1) := by decide +kernel
theorem dX1_mostFor_61 : decode cX1_mostFor 61 = .ok (.getfield 21, 3) := by decide +kernel
theorem dX1_mostFor_64 : decode cX1_mostFor 64 = .ok (.iload 4, 2) := by decide +kernel
theorem dX1_mostFor_66 : decode cX1_mostFor 66 = .ok (.iaload, 1) := by decide +kernel
theorem dX1_mostFor_67 : decode cX1_mostFor 67 = .ok (.aload_n 0, 1) := by decide +kernel
theorem dX1_mostFor_68 : decode cX1_mostFor 68 = .ok (.getfield 18, 3) := by decide +kernel
theorem dX1_mostFor_71 : decode cX1_mostFor 71 = .ok (.iload_n 3, 1) := by decide +kernel
theorem dX1_mostFor_72 : decode cX1_mostFor 72 = .ok (.iaload, 1) := by decide +kernel
theorem dX1_mostFor_73 : decode cX1_mostFor 73 = .ok (.isub, 1) := by decide +kernel
theorem dX1_mostFor_74 : decode cX1_mostFor 74 = .ok (.isub, 1) := by decide +kernel
theorem dX1_mostFor_75 : decode cX1_mostFor 75 = .ok (.istore 5, 2) := by decide +kernel
theorem dX1_mostFor_77 : decode cX1_mostFor 77 = .ok (.aload_n 0, 1) := by decide +kernel
theorem dX1_mostFor_78 : decode cX1_mostFor 78 = .ok (.getfield 24, 3) := by decide +kernel
theorem dX1_mostFor_81 : decode cX1_mostFor 81 = .ok (.iload_n 3, 1) := by decide +kernel
theorem dX1_mostFor_82 : decode cX1_mostFor 82 = .ok (.aload_n 1, 1) := by decide +kernel
theorem dX1_mostFor_83 : decode cX1_mostFor 83 = .ok (.getfield 80, 3) := by decide +kernel
theorem dX1_mostFor_86 : decode cX1_mostFor 86 = .ok (.iload_n 3, 1) := by decide +kernel
theorem dX1_mostFor_87 : decode cX1_mostFor 87 = .ok (.aaload, 1) := by decide +kernel
theorem dX1_mostFor_88 : decode cX1_mostFor 88 = .ok (.getfield 83, 3) := by decide +kernel
theorem dX1_mostFor_91 : decode cX1_mostFor 91 = .ok (.iload 5, 2) := by decide +kernel
theorem dX1_mostFor_93 : decode cX1_mostFor 93 = .ok (.invokestatic 106, 3) := by decide +kernel
theorem dX1_mostFor_96 : decode cX1_mostFor 96 = .ok (.iastore, 1) := by decide +kernel
theorem dX1_mostFor_97 : decode cX1_mostFor 97 = .ok (.iinc 3 1, 3) := by decide +kernel
theorem dX1_mostFor_100 : decode cX1_mostFor 100 = .ok (.goto (-76), 3) := by decide +kernel
theorem dX1_mostFor_103 : decode cX1_mostFor 103 = .ok (.aload_n 1, 1) := by decide +kernel
theorem dX1_mostFor_104 : decode cX1_mostFor 104 = .ok (.getfield 68, 3) := by decide +kernel
theorem dX1_mostFor_107 : decode cX1_mostFor 107 = .ok (.iload_n 2, 1) := by decide +kernel
theorem dX1_mostFor_108 : decode cX1_mostFor 108 = .ok (.aaload, 1) := by decide +kernel
theorem dX1_mostFor_109 : decode cX1_mostFor 109 = .ok (.getfield 72, 3) := by decide +kernel
theorem dX1_mostFor_112 : decode cX1_mostFor 112 = .ok (.istore_n 3, 1) := by decide +kernel
theorem dX1_mostFor_113 : decode cX1_mostFor 113 = .ok (.aload_n 1, 1) := by decide +kernel
theorem dX1_mostFor_114 : decode cX1_mostFor 114 = .ok (.getfield 80, 3) := by decide +kernel
theorem dX1_mostFor_117 : decode cX1_mostFor 117 = .ok (.iload_n 3, 1) := by decide +kernel
theorem dX1_mostFor_118 : decode cX1_mostFor 118 = .ok (.aaload, 1) := by decide +kernel
theorem dX1_mostFor_119 : decode cX1_mostFor 119 = .ok (.aload_n 0, 1) := by decide +kernel
theorem dX1_mostFor_120 : decode cX1_mostFor 120 = .ok (.getfield 24, 3) := by decide +kernel
theorem dX1_mostFor_123 : decode cX1_mostFor 123 = .ok (.iload_n 3, 1) := by decide +kernel
theorem dX1_mostFor_124 : decode cX1_mostFor 124 = .ok (.iaload, 1) := by decide +kernel
theorem dX1_mostFor_125 : decode cX1_mostFor 125 = .ok (.invokevirtual 111, 3) := by decide +kernel
theorem dX1_mostFor_128 : decode cX1_mostFor 128 = .ok (.aload_n 0, 1) := by decide +kernel
theorem dX1_mostFor_129 : decode cX1_mostFor 129 = .ok (.getfield 21, 3) := by decide +kernel
theorem dX1_mostFor_132 : decode cX1_mostFor 132 = .ok (.iload_n 3, 1) := by decide +kernel
theorem dX1_mostFor_133 : decode cX1_mostFor 133 = .ok (.iaload, 1) := by decide +kernel
theorem dX1_mostFor_134 : decode cX1_mostFor 134 = .ok (.aload_n 0, 1) := by decide +kernel
theorem dX1_mostFor_135 : decode cX1_mostFor 135 = .ok (.getfield 15, 3) := by decide +kernel
theorem dX1_mostFor_138 : decode cX1_mostFor 138 = .ok (.iload_n 2, 1) := by decide +kernel
theorem dX1_mostFor_139 : decode cX1_mostFor 139 = .ok (.iaload, 1) := by decide +kernel
theorem dX1_mostFor_140 : decode cX1_mostFor 140 = .ok (.isub, 1) := by decide +kernel
theorem dX1_mostFor_141 : decode cX1_mostFor 141 = .ok (.isub, 1) := by decide +kernel
theorem dX1_mostFor_142 : decode cX1_mostFor 142 = .ok (.ireturn, 1) := by decide +kernel
set_option maxRecDepth 20000 in
theorem ggX2_init_X0_init : GoodIn wsX2_init wsX0_init := goodIn_r _ [19, 20, 2, 3] (by decide +kernel) (by decide +kernel)
set_option maxRecDepth 20000 in
theorem gX2_init_X0_init_n40 : GoodIn wsX2_init (wsX0_init) := ggX2_init_X0_init
set_option maxRecDepth 20000 in
theorem ggX2_init_X4_init : GoodIn wsX2_init wsX4_init := goodIn_r _ [22, 23, 2, 3] (by decide +kernel) (by decide +kernel)
set_option maxRecDepth 20000 in
theorem gX2_init_X4_init_n41 : GoodIn wsX2_init (wsX4_init) := ggX2_init_X4_init
set_option maxRecDepth 20000 in
theorem ggX2_init_X2_putSupply : GoodIn wsX2_init wsX2_putSupply := goodIn_r _ [28, 29, 30, 31, 32, 10, 49, 50, 51, 52, 53, 54, 55, 56, 57, 58] (by decide +kernel) (by decide +kernel)
set_option maxRecDepth 20000 in
theorem gX2_init_X2_putSupply : GoodIn wsX2_init (wsV RX2 42 RX2 yX2_putSupply wsX2_putSupply) := goodIn_app (goodIn_of _ (by decide +kernel)) ggX2_init_X2_putSupply
set_option maxRecDepth 20000 in
theorem ggX2_init_X2_putDitch : GoodIn wsX2_init wsX2_putDitch := goodIn_r _ [36, 5, 37, 38, 39, 40, 27, 41, 42, 43, 44, 15, 45, 46, 47, 48, 49, 50, 51, 52, 53, 54, 55, 56, 57, 58, 59, 60, 61] (by decide +kernel) (by decide +kernel)
set_option maxRecDepth 20000 in
theorem gX2_init_X2_putDitch : GoodIn wsX2_init (wsV RX2 46 RX2 yX2_putDitch wsX2_putDitch) := goodIn_app (goodIn_of _ (by decide +kernel)) ggX2_init_X2_putDitch
theorem dX2_init_0 : decode cX2_init 0 = .ok (.aload_n 0, 1) := by decide +kernel
theorem dX2_init_1 : decode cX2_init 1 = .ok (.invokespecial 3, 3) := by decide +kernel
theorem dX2_init_4 : decode cX2_init 4 = .ok (.aload_n 0, 1) := by decide +kernel
theorem dX2_init_5 : decode cX2_init 5 = .ok (.bipush 10, 2) := by decide +kernel
theorem dX2_init_7 : decode cX2_init 7 = .ok (.anewarray 9, 3) := by decide +kernel
theorem dX2_init_10 : decode cX2_init 10 = .ok (.putfield 11, 3) := by decide +kernel
theorem dX2_init_13 : decode cX2_init 13 = .ok (.aload_n 0, 1) := by decide +kernel
theorem dX2_init_14 : decode cX2_init 14 = .ok (.bipush 12, 2) := by decide +kernel
theorem dX2_init_16 : decode cX2_init 16 = .ok (.anewarray 17, 3) := by decide +kernel
theorem dX2_init_19 : decode cX2_init 19 = .ok (.putfield 19, 3) := by decide +kernel
theorem dX2_init_22 : decode cX2_init 22 = .ok (.aload_n 0, 1) := by decide +kernel
theorem dX2_init_23 : decode cX2_init 23 = .ok (.bipush 12, 2) := by decide +kernel
theorem dX2_init_25 : decode cX2_init 25 = .ok (.newarray .int, 2) := by decide +kernel
theorem dX2_init_27 : decode cX2_init 27 = .ok (.putfield 23, 3) := by decide +kernel
theorem dX2_init_30 : decode cX2_init 30 = .ok (.aload_n 0, 1) := by decide +kernel
theorem dX2_init_31 : decode cX2_init 31 = .ok (.bipush 24, 2) := by decide +kernel
theorem dX2_init_33 : decode cX2_init 33 = .ok (.newarray .int, 2) := by decide +kernel
theorem dX2_init_35 : decode cX2_init 35 = .ok (.putfield 27, 3) := by decide +kernel
theorem dX2_init_38 : decode cX2_init 38 = .ok (.aload_n 0, 1) := by decide +kernel
theorem dX2_init_39 : decode cX2_init 39 = .ok (.bipush 7, 2) := by decide +kernel
theorem dX2_init_41 : decode cX2_init 41 = .ok (.newarray .int, 2) := by decide +kernel
theorem dX2_init_43 : decode cX2_init 43 = .ok (.putfield 30, 3) := by decide +kernel
theorem dX2_init_46 : decode cX2_init 46 = .ok (.aload_n 0, 1) := by decide +kernel
theorem dX2_init_47 : decode cX2_init 47 = .ok (.iconst 0, 1) := by decide +kernel
theorem dX2_init_48 : decode cX2_init 48 = .ok (.putfield 33, 3) := by decide +kernel
theorem dX2_init_51 : decode cX2_init 51 = .ok (.aload_n 0, 1) := by decide +kernel
theorem dX2_init_52 : decode cX2_init 52 = .ok (.bipush 30, 2) := by decide +kernel
theorem dX2_init_54 : decode cX2_init 54 = .ok (.putfield 37, 3) := by decide +kernel
theorem dX2_init_57 : decode cX2_init 57 = .ok (.iconst 0, 1) := by decide +kernel
theorem dX2_init_58 : decode cX2_init 58 = .ok (.istore_n 1, 1) := by decide +kernel
theorem dX2_init_59 : decode cX2_init 59 = .ok (.iload_n 1, 1) := by decide +kernel
theorem dX2_init_60 : decode cX2_init 60 = .ok (.bipush 10, 2) := by decide +kernel
theorem dX2_init_62 : decode cX2_init 62 = .ok (.if_icmp .ge 22, 3) := by decide +kernel
theorem dX2_init_65 : decode cX2_init 65 = .ok (.aload_n 0, 1) := by decide +kernel
theorem dX2_init_66 : decode cX2_init 66 = .ok (.getfield 11, 3) := by decide +kernel
theorem dX2_init_69 : decode cX2_init 69 = .ok (.iload_n 1, 1) := by decide +kernel
theorem dX2_init_70 : decode cX2_init 70 = .ok (.new 9, 3) := by decide +kernel
theorem dX2_init_73 : decode cX2_init 73 = .ok (.dup, 1) := by decide +kernel
theorem dX2_init_74 : decode cX2_init 74 = .ok (.invokespecial 40, 3) := by decide +kernel
theorem dX2_init_77 : decode cX2_init 77 = .ok (.aastore, 1) := by decide +kernel
theorem dX2_init_78 : decode cX2_init 78 = .ok (.iinc 1 1, 3) := by decide +kernel
theorem dX2_init_81 : decode cX2_init 81 = .ok (.goto (-22), 3) := by decide +kernel
theorem dX2_init_84 : decode cX2_init 84 = .ok (.iconst 0, 1) := by decide +kernel
theorem dX2_init_85 : decode cX2_init 85 = .ok (.istore_n 1, 1) := by decide +kernel
theorem dX2_init_86 : decode cX2_init 86 = .ok (.iload_n 1, 1) := by decide +kernel
theorem dX2_init_87 : decode cX2_init 87 = .ok (.bipush 12, 2) := by decide +kernel
theorem dX2_init_89 : decode cX2_init 89 = .ok (.if_icmp .ge 22, 3) := by decide +kernel
theorem dX2_init_92 : decode cX2_init 92 = .ok (.aload_n 0, 1) := by decide +kernel
theorem dX2_init_93 : decode cX2_init 93 = .ok (.getfield 19, 3) := by decide +kernel
theorem dX2_init_96 : decode cX2_init 96 = .ok (.iload_n 1, 1) := by decide +kernel
theorem dX2_init_97 : decode cX2_init 97 = .ok (.new 17, 3) := by decide +kernel
theorem dX2_init_100 : decode cX2_init 100 = .ok (.dup, 1) := by decide +kernel
theorem dX2_init_101 : decode cX2_init 101 = .ok (.invokespecial 41, 3) := by decide +kernel
theorem dX2_init_104 : decode cX2_init 104 = .ok (.aastore, 1) := by decide +kernel
theorem dX2_init_105 : decode cX2_init 105 = .ok (.iinc 1 1, 3) := by decide +kernel
theorem dX2_init_108 : decode cX2_init 108 = .ok (.goto (-22), 3) := by decide +kernel
theorem dX2_init_111 : decode cX2_init 111 = .ok (.aload_n 0, 1) := by decide +kernel
theorem dX2_init_112 : decode cX2_init 112 = .ok (.iconst 0, 1) := by decide +kernel
theorem dX2_init_113 : decode cX2_init 113 = .ok (.bipush 24, 2) := by decide +kernel
theorem dX2_init_115 : decode cX2_init 115 = .ok (.bipush 100, 2) := by decide +kernel
theorem dX2_init_117 : decode cX2_init 117 = .ok (.invokevirtual 42, 3) := by decide +kernel
theorem dX2_init_120 : decode cX2_init 120 = .ok (.aload_n 0, 1) := by decide +kernel
theorem dX2_init_121 : decode cX2_init 121 = .ok (.iconst 0, 1) := by decide +kernel
theorem dX2_init_122 : decode cX2_init 122 = .ok (.bipush 100, 2) := by decide +kernel
theorem dX2_init_124 : decode cX2_init 124 = .ok (.iconst 0, 1) := by decide +kernel
theorem dX2_init_125 : decode cX2_init 125 = .ok (.invokevirtual 46, 3) := by decide +kernel
theorem dX2_init_128 : decode cX2_init 128 = .ok (.return_, 1) := by decide +kernel
set_option maxRecDepth 20000 in
theorem ggX2_copyFrom_X0_begin : GoodIn wsX2_copyFrom wsX0_begin := goodIn_r _ [18, 19, 20, 21, 53, 54, 55] (by decide +kernel) (by decide +kernel)
set_option maxRecDepth 20000 in
theorem gX2_copyFrom_X0_begin : GoodIn wsX2_copyFrom (wsV RX2 61 RX0 yX0_begin wsX0_begin) := goodIn_app (goodIn_of _ (by decide +kernel)) ggX2_copyFrom_X0_begin
set_option maxRecDepth 20000 in
theorem ggX2_copyFrom_X4_copyFrom : GoodIn wsX2_copyFrom wsX4_copyFrom := goodIn_r _ [26, 27, 28, 29, 30, 31, 32, 33, 34, 35, 36, 37, 38, 39, 40, 41, 25, 42, 56, 57, 58, 59, 60, 61, 62, 63, 64, 65, 66, 67] (by decide +kernel) (by decide +kernel)
set_option maxRecDepth 20000 in
theorem gX2_copyFrom_X4_copyFrom : GoodIn wsX2_copyFrom (wsV RX2 67 RX4 yX4_copyFrom wsX4_copyFrom) := goodIn_app (goodIn_of _ (by decide +kernel)) ggX2_copyFrom_X4_copyFrom
theorem dX2_copyFrom_0 : decode cX2_copyFrom 0 = .ok (.aload_n 0, 1) := by decide +kernel
theorem dX2_copyFrom_1 : decode cX2_copyFrom 1 = .ok (.aload_n 1, 1) := by decide +kernel
theorem dX2_copyFrom_2 : decode cX2_copyFrom 2 = .ok (.getfield 49, 3) := by decide +kernel
theorem dX2_copyFrom_5 : decode cX2_copyFrom 5 = .ok (.putfield 49, 3) := by decide +kernel
theorem dX2_copyFrom_8 : decode cX2_copyFrom 8 = .ok (.iconst 0, 1) := by decide +kernel
theorem dX2_copyFrom_9 : decode cX2_copyFrom 9 = .ok (.istore_n 2, 1) := by decide +kernel
theorem dX2_copyFrom_10 : decode cX2_copyFrom 10 = .ok (.iload_n 2, 1) := by decide +kernel
theorem dX2_copyFrom_11 : decode cX2_copyFrom 11 = .ok (.aload_n 0, 1) := by decide +kernel
theorem dX2_copyFrom_12 : decode cX2_copyFrom 12 = .ok (.getfield 49, 3) := by decide +kernel
theorem dX2_copyFrom_15 : decode cX2_copyFrom 15 = .ok (.if_icmp .ge 37, 3) := by decide +kernel
theorem dX2_copyFrom_18 : decode cX2_copyFrom 18 = .ok (.aload_n 1, 1) := by decide +kernel
theorem dX2_copyFrom_19 : decode cX2_copyFrom 19 = .ok (.getfield 11, 3) := by decide +kernel
theorem dX2_copyFrom_22 : decode cX2_copyFrom 22 = .ok (.iload_n 2, 1) := by decide +kernel
theorem dX2_copyFrom_23 : decode cX2_copyFrom 23 = .ok (.aaload, 1) := by decide +kernel
theorem dX2_copyFrom_24 : decode cX2_copyFrom 24 = .ok (.astore_n 3, 1) := by decide +kernel
theorem dX2_copyFrom_25 : decode cX2_copyFrom 25 = .ok (.aload_n 0, 1) := by decide +kernel
theorem dX2_copyFrom_26 : decode cX2_copyFrom 26 = .ok (.getfield 11, 3) := by decide +kernel
theorem dX2_copyFrom_29 : decode cX2_copyFrom 29 = .ok (.iload_n 2, 1) := by decide +kernel
theorem dX2_copyFrom_30 : decode cX2_copyFrom 30 = .ok (.aaload, 1) := by decide +kernel
theorem dX2_copyFrom_31 : decode cX2_copyFrom 31 = .ok (.aload_n 3, 1) := by decide +kernel
theorem dX2_copyFrom_32 : decode cX2_copyFrom 32 = .ok (.getfield 52, 3) := by decide +kernel
theorem dX2_copyFrom_35 : decode cX2_copyFrom 35 = .ok (.aload_n 3, 1) := by decide +kernel
theorem dX2_copyFrom_36 : decode cX2_copyFrom 36 = .ok (.getfield 55, 3) := by decide +kernel
theorem dX2_copyFrom_39 : decode cX2_copyFrom 39 = .ok (.aload_n 3, 1) := by decide +kernel
theorem dX2_copyFrom_40 : decode cX2_copyFrom 40 = .ok (.getfield 58, 3) := by decide +kernel
theorem dX2_copyFrom_43 : decode cX2_copyFrom 43 = .ok (.invokevirtual 61, 3) := by decide +kernel
theorem dX2_copyFrom_46 : decode cX2_copyFrom 46 = .ok (.iinc 2 1, 3) := by decide +kernel
theorem dX2_copyFrom_49 : decode cX2_copyFrom 49 = .ok (.goto (-39), 3) := by decide +kernel
theorem dX2_copyFrom_52 : decode cX2_copyFrom 52 = .ok (.aload_n 0, 1) := by decide +kernel
theorem dX2_copyFrom_53 : decode cX2_copyFrom 53 = .ok (.aload_n 1, 1) := by decide +kernel
theorem dX2_copyFrom_54 : decode cX2_copyFrom 54 = .ok (.getfield 64, 3) := by decide +kernel
theorem dX2_copyFrom_57 : decode cX2_copyFrom 57 = .ok (.putfield 64, 3) := by decide +kernel
theorem dX2_copyFrom_60 : decode cX2_copyFrom 60 = .ok (.iconst 0, 1) := by decide +kernel
theorem dX2_copyFrom_61 : decode cX2_copyFrom 61 = .ok (.istore_n 2, 1) := by decide +kernel
theorem dX2_copyFrom_62 : decode cX2_copyFrom 62 = .ok (.iload_n 2, 1) := by decide +kernel
theorem dX2_copyFrom_63 : decode cX2_copyFrom 63 = .ok (.aload_n 0, 1) := by decide +kernel
theorem dX2_copyFrom_64 : decode cX2_copyFrom 64 = .ok (.getfield 64, 3) := by decide +kernel
theorem dX2_copyFrom_67 : decode cX2_copyFrom 67 = .ok (.if_icmp .ge 36, 3) := by decide +kernel
theorem dX2_copyFrom_70 : decode cX2_copyFrom 70 = .ok (.aload_n 0, 1) := by decide +kernel
theorem dX2_copyFrom_71 : decode cX2_copyFrom 71 = .ok (.getfield 19, 3) := by decide +kernel
theorem dX2_copyFrom_74 : decode cX2_copyFrom 74 = .ok (.iload_n 2, 1) := by decide +kernel
theorem dX2_copyFrom_75 : decode cX2_copyFrom 75 = .ok (.aaload, 1) := by decide +kernel
theorem dX2_copyFrom_76 : decode cX2_copyFrom 76 = .ok (.aload_n 1, 1) := by decide +kernel
theorem dX2_copyFrom_77 : decode cX2_copyFrom 77 = .ok (.getfield 19, 3) := by decide +kernel
theorem dX2_copyFrom_80 : decode cX2_copyFrom 80 = .ok (.iload_n 2, 1) := by decide +kernel
theorem dX2_copyFrom_81 : decode cX2_copyFrom 81 = .ok (.aaload, 1) := by decide +kernel
theorem dX2_copyFrom_82 : decode cX2_copyFrom 82 = .ok (.invokevirtual 67, 3) := by decide +kernel
theorem dX2_copyFrom_85 : decode cX2_copyFrom 85 = .ok (.aload_n 0, 1) := by decide +kernel
theorem dX2_copyFrom_86 : decode cX2_copyFrom 86 = .ok (.getfield 23, 3) := by decide +kernel
theorem dX2_copyFrom_89 : decode cX2_copyFrom 89 = .ok (.iload_n 2, 1) := by decide +kernel
theorem dX2_copyFrom_90 : decode cX2_copyFrom 90 = .ok (.aload_n 1, 1) := by decide +kernel
theorem dX2_copyFrom_91 : decode cX2_copyFrom 91 = .ok (.getfield 23, 3) := by decide +kernel
theorem dX2_copyFrom_94 : decode cX2_copyFrom 94 = .ok (.iload_n 2, 1) := by decide +kernel
theorem dX2_copyFrom_95 : decode cX2_copyFrom 95 = .ok (.iaload, 1) := by decide +kernel
theorem dX2_copyFrom_96 : decode cX2_copyFrom 96 = .ok (.iastore, 1) := by decide +kernel
theorem dX2_copyFrom_97 : decode cX2_copyFrom 97 = .ok (.iinc 2 1, 3) := by decide +kernel
theorem dX2_copyFrom_100 : decode cX2_copyFrom 100 = .ok (.goto (-38), 3) := by decide +kernel
theorem dX2_copyFrom_103 : decode cX2_copyFrom 103 = .ok (.iconst 0, 1) := by decide +kernel
theorem dX2_copyFrom_104 : decode cX2_copyFrom 104 = .ok (.istore_n 2, 1) := by decide +kernel
theorem dX2_copyFrom_105 : decode cX2_copyFrom 105 = .ok (.iload_n 2, 1) := by decide +kernel
theorem dX2_copyFrom_106 : decode cX2_copyFrom 106 = .ok (.bipush 24, 2) := by decide +kernel
theorem dX2_copyFrom_108 : decode cX2_copyFrom 108 = .ok (.if_icmp .ge 21, 3) := by decide +kernel
theorem dX2_copyFrom_111 : decode cX2_copyFrom 111 = .ok (.aload_n 0, 1) := by decide +kernel
theorem dX2_copyFrom_112 : decode cX2_copyFrom 112 = .ok (.getfield 27, 3) := by decide +kernel
theorem dX2_copyFrom_115 : decode cX2_copyFrom 115 = .ok (.iload_n 2, 1) := by decide +kernel
theorem dX2_copyFrom_116 : decode cX2_copyFrom 116 = .ok (.aload_n 1, 1) := by decide +kernel
theorem dX2_copyFrom_117 : decode cX2_copyFrom 117 = .ok (.getfield 27, 3) := by decide +kernel
theorem dX2_copyFrom_120 : decode cX2_copyFrom 120 = .ok (.iload_n 2, 1) := by decide +kernel
theorem dX2_copyFrom_121 : decode cX2_copyFrom 121 = .ok (.iaload, 1) := by decide +kernel
theorem dX2_copyFrom_122 : decode cX2_copyFrom 122 = .ok (.iastore, 1) := by decide +kernel
theorem dX2_copyFrom_123 : decode cX2_copyFrom 123 = .ok (.iinc 2 1, 3) := by decide +kernel
theorem dX2_copyFrom_126 : decode cX2_copyFrom 126 = .ok (.goto (-21), 3) := by decide +kernel
theorem dX2_copyFrom_129 : decode cX2_copyFrom 129 = .ok (.iconst 0, 1) := by decide +kernel
theorem dX2_copyFrom_130 : decode cX2_copyFrom 130 = .ok (.istore_n 2, 1) := by decide +kernel
theorem dX2_copyFrom_131 : decode cX2_copyFrom 131 = .ok (.iload_n 2, 1) := by decide +kernel
theorem dX2_copyFrom_132 : decode cX2_copyFrom 132 = .ok (.bipush 7, 2) := by decide +kernel
theorem dX2_copyFrom_134 : decode cX2_copyFrom 134 = .ok (.if_icmp .ge 21, 3) := by decide +kernel
theorem dX2_copyFrom_137 : decode cX2_copyFrom 137 = .ok (.aload_n 0, 1) := by decide +kernel
theorem dX2_copyFrom_138 : decode cX2_copyFrom 138 = .ok (.getfield 30, 3) := by decide +kernel
theorem dX2_copyFrom_141 : decode cX2_copyFrom 141 = .ok (.iload_n 2, 1) := by decide +kernel
theorem dX2_copyFrom_142 : decode cX2_copyFrom 142 = .ok (.aload_n 1, 1) := by decide +kernel
theorem dX2_copyFrom_143 : decode cX2_copyFrom 143 = .ok (.getfield 30, 3) := by decide +kernel
theorem dX2_copyFrom_146 : decode cX2_copyFrom 146 = .ok (.iload_n 2, 1) := by decide +kernel
theorem dX2_copyFrom_147 : decode cX2_copyFrom 147 = .ok (.iaload, 1) := by decide +kernel
theorem dX2_copyFrom_148 : decode cX2_copyFrom 148 = .ok (.iastore, 1) := by decide +kernel
theorem dX2_copyFrom_149 : decode cX2_copyFrom 149 = .ok (.iinc 2 1, 3) := by decide +kernel
theorem dX2_copyFrom_152 : decode cX2_copyFrom 152 = .ok (.goto (-21), 3) := by decide +kernel
theorem dX2_copyFrom_155 : decode cX2_copyFrom 155 = .ok (.aload_n 0, 1) := by decide +kernel
theorem dX2_copyFrom_156 : decode cX2_copyFrom 156 = .ok (.aload_n 1, 1) := by decide +kernel
theorem dX2_copyFrom_157 : decode cX2_copyFrom 157 = .ok (.getfield 33, 3) := by decide +kernel
theorem dX2_copyFrom_160 : decode cX2_copyFrom 160 = .ok (.putfield 33, 3) := by decide +kernel
theorem dX2_copyFrom_163 : decode cX2_copyFrom 163 = .ok (.aload_n 0, 1) := by decide +kernel
theorem dX2_copyFrom_164 : decode cX2_copyFrom 164 = .ok (.aload_n 1, 1) := by decide +kernel
theorem dX2_copyFrom_165 : decode cX2_copyFrom 165 = .ok (.getfield 37, 3) := by decide +kernel
theorem dX2_copyFrom_168 : decode cX2_copyFrom 168 = .ok (.putfield 37, 3) := by decide +kernel
theorem dX2_copyFrom_171 : decode cX2_copyFrom 171 = .ok (.aload_n 0, 1) := by decide +kernel
theorem dX2_copyFrom_172 : decode cX2_copyFrom 172 = .ok (.aload_n 1, 1) := by decide +kernel
theorem dX2_copyFrom_173 : decode cX2_copyFrom 173 = .ok (.getfield 71, 3) := by decide +kernel
theorem dX2_copyFrom_176 : decode cX2_copyFrom 176 = .ok (.putfield 71, 3) := by decide +kernel
theorem dX2_copyFrom_179 : decode cX2_copyFrom 179 = .ok (.return_, 1) := by decide +kernel
theorem dX2_hasDitch_0 : decode cX2_hasDitch 0 = .ok (.iload_n 1, 1) := by decide +kernel
theorem dX2_hasDitch_1 : decode cX2_hasDitch 1 = .ok (.ifCond .lt 15, 3) := by decide +kernel
theorem dX2_hasDitch_4 : decode cX2_hasDitch 4 = .ok (.iload_n 1, 1) := by decide +kernel
theorem dX2_hasDitch_5 : decode cX2_hasDitch 5 = .ok (.aload_n 0, 1) := by decide +kernel
theorem dX2_hasDitch_6 : decode cX2_hasDitch 6 = .ok (.getfield 49, 3) := by decide +kernel
theorem dX2_hasDitch_9 : decode cX2_hasDitch 9 = .ok (.if_icmp .ge 7, 3) := by decide +kernel
theorem dX2_hasDitch_12 : decode cX2_hasDitch 12 = .ok (.iconst 1, 1) := by decide +kernel
theorem dX2_hasDitch_13 : decode cX2_hasDitch 13 = .ok (.goto 4, 3) := by decide +kernel
theorem dX2_hasDitch_16 : decode cX2_hasDitch 16 = .ok (.iconst 0, 1) := by decide +kernel
theorem dX2_hasDitch_17 : decode cX2_hasDitch 17 = .ok (.ireturn, 1) := by decide +kernel
theorem dX2_hasUser_0 : decode cX2_hasUser 0 = .ok (.iload_n 1, 1) := by decide +kernel
theorem dX2_hasUser_1 : decode cX2_hasUser 1 = .ok (.ifCond .lt 15, 3) := by decide +kernel
theorem dX2_hasUser_4 : decode cX2_hasUser 4 = .ok (.iload_n 1, 1) := by decide +kernel
theorem dX2_hasUser_5 : decode cX2_hasUser 5 = .ok (.aload_n 0, 1) := by decide +kernel
theorem dX2_hasUser_6 : decode cX2_hasUser 6 = .ok (.getfield 64, 3) := by decide +kernel
theorem dX2_hasUser_9 : decode cX2_hasUser 9 = .ok (.if_icmp .ge 7, 3) := by decide +kernel
theorem dX2_hasUser_12 : decode cX2_hasUser 12 = .ok (.iconst 1, 1) := by decide +kernel
theorem dX2_hasUser_13 : decode cX2_hasUser 13 = .ok (.goto 4, 3) := by decide +kernel
theorem dX2_hasUser_16 : decode cX2_hasUser 16 = .ok (.iconst 0, 1) := by decide +kernel
theorem dX2_hasUser_17 : decode cX2_hasUser 17 = .ok (.ireturn, 1) := by decide +kernel
theorem dX2_hasRoomForDitch_0 : decode cX2_hasRoomForDitch 0 = .ok (.aload_n 0, 1) := by decide +kernel
theorem dX2_hasRoomForDitch_1 : decode cX2_hasRoomForDitch 1 = .ok (.getfield 49, 3) := by decide +kernel
theorem dX2_hasRoomForDitch_4 : decode cX2_hasRoomForDitch 4 = .ok (.bipush 10, 2) := by decide +kernel
theorem dX2_hasRoomForDitch_6 : decode cX2_hasRoomForDitch 6 = .ok (.if_icmp .ge 7, 3) := by decide +kernel
theorem dX2_hasRoomForDitch_9 : decode cX2_hasRoomForDitch 9 = .ok (.iconst 1, 1) := by decide +kernel
theorem dX2_hasRoomForDitch_10 : decode cX2_hasRoomForDitch 10 = .ok (.goto 4, 3) := by decide +kernel
theorem dX2_hasRoomForDitch_13 : decode cX2_hasRoomForDitch 13 = .ok (.iconst 0, 1) := by decide +kernel
theorem dX2_hasRoomForDitch_14 : decode cX2_hasRoomForDitch 14 = .ok (.ireturn, 1) := by decide +kernel
theorem dX2_hasRoomForUser_0 : decode cX2_hasRoomForUser 0 = .ok (.aload_n 0, 1) := by decide +kernel
theorem dX2_hasRoomForUser_1 : decode cX2_hasRoomForUser 1 = .ok (.getfield 64, 3) := by decide +kernel
theorem dX2_hasRoomForUser_4 : decode cX2_hasRoomForUser 4 = .ok (.bipush 12, 2) := by decide +kernel
theorem dX2_hasRoomForUser_6 : decode cX2_hasRoomForUser 6 = .ok (.if_icmp .ge 7, 3) := by decide +kernel
theorem dX2_hasRoomForUser_9 : decode cX2_hasRoomForUser 9 = .ok (.iconst 1, 1) := by decide +kernel
theorem dX2_hasRoomForUser_10 : decode cX2_hasRoomForUser 10 = .ok (.goto 4, 3) := by decide +kernel
theorem dX2_hasRoomForUser_13 : decode cX2_hasRoomForUser 13 = .ok (.iconst 0, 1) := by decide +kernel
theorem dX2_hasRoomForUser_14 : decode cX2_hasRoomForUser 14 = .ok (.ireturn, 1) := by decide +kernel
set_option maxRecDepth 20000 in
theorem ggX2_putDitch_X2_hasRoomForDitch : GoodIn wsX2_putDitch wsX2_hasRoomForDitch := goodIn_r _ [7, 2, 16, 17, 18, 19, 20, 21, 22, 23, 24, 25] (by decide +kernel) (by decide +kernel)
set_option maxRecDepth 20000 in
theorem gX2_putDitch_X2_hasRoomForDitch : GoodIn wsX2_putDitch (wsV RX2 74 RX2 yX2_hasRoomForDitch wsX2_hasRoomForDitch) := goodIn_app (goodIn_of _ (by decide +kernel)) ggX2_putDitch_X2_hasRoomForDitch
set_option maxRecDepth 20000 in
theorem ggX2_putDitch_X0_begin : GoodIn wsX2_putDitch wsX0_begin := goodIn_r _ [12, 13, 14, 15, 26, 27, 28] (by decide +kernel) (by decide +kernel)
set_option maxRecDepth 20000 in
theorem gX2_putDitch_X0_begin : GoodIn wsX2_putDitch (wsV RX2 61 RX0 yX0_begin wsX0_begin) := goodIn_app (goodIn_of _ (by decide +kernel)) ggX2_putDitch_X0_begin
theorem dX2_putDitch_0 : decode cX2_putDitch 0 = .ok (.aload_n 0, 1) := by decide +kernel
theorem dX2_putDitch_1 : decode cX2_putDitch 1 = .ok (.invokevirtual 74, 3) := by decide +kernel
theorem dX2_putDitch_4 : decode cX2_putDitch 4 = .ok (.ifCond .ne 4, 3) := by decide +kernel
theorem dX2_putDitch_7 : decode cX2_putDitch 7 = .ok (.return_, 1) := by decide +kernel
theorem dX2_putDitch_8 : decode cX2_putDitch 8 = .ok (.aload_n 0, 1) := by decide +kernel
theorem dX2_putDitch_9 : decode cX2_putDitch 9 = .ok (.getfield 11, 3) := by decide +kernel
theorem dX2_putDitch_12 : decode cX2_putDitch 12 = .ok (.aload_n 0, 1) := by decide +kernel
theorem dX2_putDitch_13 : decode cX2_putDitch 13 = .ok (.getfield 49, 3) := by decide +kernel
theorem dX2_putDitch_16 : decode cX2_putDitch 16 = .ok (.aaload, 1) := by decide +kernel
theorem dX2_putDitch_17 : decode cX2_putDitch 17 = .ok (.iload_n 1, 1) := by decide +kernel
theorem dX2_putDitch_18 : decode cX2_putDitch 18 = .ok (.iload_n 2, 1) := by decide +kernel
theorem dX2_putDitch_19 : decode cX2_putDitch 19 = .ok (.iload_n 3, 1) := by decide +kernel
theorem dX2_putDitch_20 : decode cX2_putDitch 20 = .ok (.invokevirtual 61, 3) := by decide +kernel
theorem dX2_putDitch_23 : decode cX2_putDitch 23 = .ok (.aload_n 0, 1) := by decide +kernel
theorem dX2_putDitch_24 : decode cX2_putDitch 24 = .ok (.dup, 1) := by decide +kernel
theorem dX2_putDitch_25 : decode cX2_putDitch 25 = .ok (.getfield 49, 3) := by decide +kernel
theorem dX2_putDitch_28 : decode cX2_putDitch 28 = .ok (.iconst 1, 1) := by decide +kernel
theorem dX2_putDitch_29 : decode cX2_putDitch 29 = .ok (.iadd, 1) := by decide +kernel
theorem dX2_putDitch_30 : decode cX2_putDitch 30 = .ok (.putfield 49, 3) := by decide +kernel
theorem dX2_putDitch_33 : decode cX2_putDitch 33 = .ok (.return_, 1) := by decide +kernel
set_option maxRecDepth 20000 in
theorem ggX2_putUser_X2_hasRoomForUser : GoodIn wsX2_putUser wsX2_hasRoomForUser := goodIn_r _ [9, 1, 27, 28, 29, 30, 31, 32, 33, 34, 35, 36] (by decide +kernel) (by decide +kernel)
set_option maxRecDepth 20000 in
theorem gX2_putUser_X2_hasRoomForUser : GoodIn wsX2_putUser (wsV RX2 78 RX2 yX2_hasRoomForUser wsX2_hasRoomForUser) := goodIn_app (goodIn_of _ (by decide +kernel)) ggX2_putUser_X2_hasRoomForUser
set_option maxRecDepth 20000 in
theorem ggX2_putUser_X4_begin : GoodIn wsX2_putUser wsX4_begin := goodIn_r _ [14, 15, 16, 17, 18, 19, 20, 21, 22, 23, 24, 25, 26, 37, 38, 39, 40, 41, 42, 43, 44, 45, 46, 47, 48] (by decide +kernel) (by decide +kernel)
set_option maxRecDepth 20000 in
theorem gX2_putUser_X4_begin : GoodIn wsX2_putUser (wsV RX2 84 RX4 yX4_begin wsX4_begin) := goodIn_app (goodIn_of _ (by decide +kernel)) ggX2_putUser_X4_begin
theorem dX2_putUser_0 : decode cX2_putUser 0 = .ok (.aload_n 0, 1) := by decide +kernel
theorem dX2_putUser_1 : decode cX2_putUser 1 = .ok (.invokevirtual 78, 3) := by decide +kernel
theorem dX2_putUser_4 : decode cX2_putUser 4 = .ok (.ifCond .ne 4, 3) := by decide +kernel
theorem dX2_putUser_7 : decode cX2_putUser 7 = .ok (.return_, 1) := by decide +kernel
theorem dX2_putUser_8 : decode cX2_putUser 8 = .ok (.aload_n 0, 1) := by decide +kernel
theorem dX2_putUser_9 : decode cX2_putUser 9 = .ok (.getfield 64, 3) := by decide +kernel
theorem dX2_putUser_12 : decode cX2_putUser 12 = .ok (.istore 4, 2) := by decide +kernel
theorem dX2_putUser_14 : decode cX2_putUser 14 = .ok (.iload 4, 2) := by decide +kernel
theorem dX2_putUser_16 : decode cX2_putUser 16 = .ok (.ifCond .le 46, 3) := by decide +kernel
theorem dX2_putUser_19 : decode cX2_putUser 19 = .ok (.aload_n 0, 1) := by decide +kernel
theorem dX2_putUser_20 : decode cX2_putUser 20 = .ok (.getfield 19, 3) := by decide +kernel
theorem dX2_putUser_23 : decode cX2_putUser 23 = .ok (.aload_n 0, 1) := by decide +kernel
theorem dX2_putUser_24 : decode cX2_putUser 24 = .ok (.getfield 23, 3) := by decide +kernel
theorem dX2_putUser_27 : decode cX2_putUser 27 = .ok (.iload 4, 2) := by decide +kernel
theorem dX2_putUser_29 : decode cX2_putUser 29 = .ok (.iconst 1, 1) := by decide +kernel
theorem dX2_putUser_30 : decode cX2_putUser 30 = .ok (.isub, 1) := by decide +kernel
theorem dX2_putUser_31 : decode cX2_putUser 31 = .ok (.iaload, 1) := by decide +kernel
theorem dX2_putUser_32 : decode cX2_putUser 32 = .ok (.aaload, 1) := by decide +kernel
theorem dX2_putUser_33 : decode cX2_putUser 33 = .ok (.getfield 81, 3) := by decide +kernel
theorem dX2_putUser_36 : decode cX2_putUser 36 = .ok (.iload_n 2, 1) := by decide +kernel
theorem dX2_putUser_37 : decode cX2_putUser 37 = .ok (.if_icmp .le 25, 3) := by decide +kernel
theorem dX2_putUser_40 : decode cX2_putUser 40 = .ok (.aload_n 0, 1) := by decide +kernel
theorem dX2_putUser_41 : decode cX2_putUser 41 = .ok (.getfield 23, 3) := by decide +kernel
theorem dX2_putUser_44 : decode cX2_putUser 44 = .ok (.iload 4, 2) := by decide +kernel
theorem dX2_putUser_46 : decode cX2_putUser 46 = .ok (.aload_n 0, 1) := by decide +kernel
theorem dX2_putUser_47 : decode cX2_putUser 47 = .ok (.getfield 23, 3) := by decide +kernel
theorem dX2_putUser_50 : decode cX2_putUser 50 = .ok (.iload 4, 2) := by decide +kernel
theorem dX2_putUser_52 : decode cX2_putUser 52 = .ok (.iconst 1, 1) := by decide +kernel
theorem dX2_putUser_53 : decode cX2_putUser 53 = .ok (.isub, 1) := by decide +kernel
theorem dX2_putUser_54 : decode cX2_putUser 54 = .ok (.iaload, 1) := by decide +kernel
theorem dX2_putUser_55 : decode cX2_putUser 55 = .ok (.iastore, 1) := by decide +kernel
theorem dX2_putUser_56 : decode cX2_putUser 56 = .ok (.iinc 4 (-1), 3) := by decide +kernel
theorem dX2_putUser_59 : decode cX2_putUser 59 = .ok (.goto (-45), 3) := by decide +kernel
theorem dX2_putUser_62 : decode cX2_putUser 62 = .ok (.aload_n 0, 1) := by decide +kernel
theorem dX2_putUser_63 : decode cX2_putUser 63 = .ok (.getfield 23, 3) := by decide +kernel
theorem dX2_putUser_66 : decode cX2_putUser 66 = .ok (.iload 4, 2) := by decide +kernel
theorem dX2_putUser_68 : decode cX2_putUser 68 = .ok (.aload_n 0, 1) := by decide +kernel
theorem dX2_putUser_69 : decode cX2_putUser 69 = .ok (.getfield 64, 3) := by decide +kernel
theorem dX2_putUser_72 : decode cX2_putUser 72 = .ok (.iastore, 1) := by decide +kernel
theorem dX2_putUser_73 : decode cX2_putUser 73 = .ok (.aload_n 0, 1) := by decide +kernel
theorem dX2_putUser_74 : decode cX2_putUser 74 = .ok (.getfield 19, 3) := by decide +kernel
theorem dX2_putUser_77 : decode cX2_putUser 77 = .ok (.aload_n 0, 1) := by decide +kernel
theorem dX2_putUser_78 : decode cX2_putUser 78 = .ok (.getfield 64, 3) := by decide +kernel
theorem dX2_putUser_81 : decode cX2_putUser 81 = .ok (.aaload, 1) := by decide +kernel
theorem dX2_putUser_82 : decode cX2_putUser 82 = .ok (.iload_n 1, 1) := by decide +kernel
theorem dX2_putUser_83 : decode cX2_putUser 83 = .ok (.iload_n 2, 1) := by decide +kernel
theorem dX2_putUser_84 : decode cX2_putUser 84 = .ok (.iload_n 3, 1) := by decide +kernel
theorem dX2_putUser_85 : decode cX2_putUser 85 = .ok (.invokevirtual 84, 3) := by decide +kernel
theorem dX2_putUser_88 : decode cX2_putUser 88 = .ok (.aload_n 0, 1) := by decide +kernel
theorem dX2_putUser_89 : decode cX2_putUser 89 = .ok (.dup, 1) := by decide +kernel
theorem dX2_putUser_90 : decode cX2_putUser 90 = .ok (.getfield 64, 3) := by decide +kernel
theorem dX2_putUser_93 : decode cX2_putUser 93 = .ok (.iconst 1, 1) := by decide +kernel
theorem dX2_putUser_94 : decode cX2_putUser 94 = .ok (.iadd, 1) := by decide +kernel
theorem dX2_putUser_95 : decode cX2_putUser 95 = .ok (.putfield 64, 3) := by decide +kernel
theorem dX2_putUser_98 : decode cX2_putUser 98 = .ok (.return_, 1) := by decide +kernel
theorem dX2_putSupply_0 : decode cX2_putSupply 0 = .ok (.iload_n 1, 1) := by decide +kernel
theorem dX2_putSupply_1 : decode cX2_putSupply 1 = .ok (.iconst 0, 1) := by decide +kernel
theorem dX2_putSupply_2 : decode cX2_putSupply 2 = .ok (.invokestatic 85, 3) := by decide +kernel
theorem dX2_putSupply_5 : decode cX2_putSupply 5 = .ok (.istore 4, 2) := by decide +kernel
theorem dX2_putSupply_7 : decode cX2_putSupply 7 = .ok (.iload 4, 2) := by decide +kernel
theorem dX2_putSupply_9 : decode cX2_putSupply 9 = .ok (.iload_n 2, 1) := by decide +kernel
theorem dX2_putSupply_10 : decode cX2_putSupply 10 = .ok (.if_icmp .ge 24, 3) := by decide +kernel
theorem dX2_putSupply_13 : decode cX2_putSupply 13 = .ok (.iload 4, 2) := by decide +kernel
theorem dX2_putSupply_15 : decode cX2_putSupply 15 = .ok (.bipush 24, 2) := by decide +kernel
theorem dX2_putSupply_17 : decode cX2_putSupply 17 = .ok (.if_icmp .ge 17, 3) := by decide +kernel
theorem dX2_putSupply_20 : decode cX2_putSupply 20 = .ok (.aload_n 0, 1) := by decide +kernel
theorem dX2_putSupply_21 : decode cX2_putSupply 21 = .ok (.getfield 27, 3) := by decide +kernel
theorem dX2_putSupply_24 : decode cX2_putSupply 24 = .ok (.iload 4, 2) := by decide +kernel
theorem dX2_putSupply_26 : decode cX2_putSupply 26 = .ok (.iload_n 3, 1) := by decide +kernel
theorem dX2_putSupply_27 : decode cX2_putSupply 27 = .ok (.iastore, 1) := by decide +kernel
theorem dX2_putSupply_28 : decode cX2_putSupply 28 = .ok (.iinc 4 1, 3) := by decide +kernel
theorem dX2_putSupply_31 : decode cX2_putSupply 31 = .ok (.goto (-24), 3) := by decide +kernel
theorem dX2_putSupply_34 : decode cX2_putSupply 34 = .ok (.return_, 1) := by decide +kernel
set_option maxRecDepth 20000 in
theorem ggX2_hourOfDay_J9_floorMod_7cf53 : GoodIn wsX2_hourOfDay wsJ9_floorMod_7cf53 := goodIn_r _ [5] (by decide +kernel) (by decide +kernel)
set_option maxRecDepth 20000 in
theorem gX2_hourOfDay_J9_floorMod_7cf53 : GoodIn wsX2_hourOfDay (va_wsS RX2 91 yJ9_floorMod_7cf53 wsJ9_floorMod_7cf53) := goodIn_app (goodIn_of _ (by decide +kernel)) ggX2_hourOfDay_J9_floorMod_7cf53
theorem dX2_hourOfDay_0 : decode cX2_hourOfDay 0 = .ok (.aload_n 0, 1) := by decide +kernel
theorem dX2_hourOfDay_1 : decode cX2_hourOfDay 1 = .ok (.getfield 71, 3) := by decide +kernel
theorem dX2_hourOfDay_4 : decode cX2_hourOfDay 4 = .ok (.bipush 24, 2) := by decide +kernel
theorem dX2_hourOfDay_6 : decode cX2_hourOfDay 6 = .ok (.invokestatic 91, 3) := by decide +kernel
theorem dX2_hourOfDay_9 : decode cX2_hourOfDay 9 = .ok (.ireturn, 1) := by decide +kernel
set_option maxRecDepth 20000 in
theorem ggX2_supplyNow_X2_hourOfDay : GoodIn wsX2_supplyNow wsX2_hourOfDay := goodIn_r _ [6, 7, 8, 9, 10, 11, 12, 13, 14, 15, 16, 17, 18, 19, 20, 21] (by decide +kernel) (by decide +kernel)
set_option maxRecDepth 20000 in
theorem gX2_supplyNow_X2_hourOfDay : GoodIn wsX2_supplyNow (wsV RX2 94 RX2 yX2_hourOfDay wsX2_hourOfDay) := goodIn_app (goodIn_of _ (by decide +kernel)) ggX2_supplyNow_X2_hourOfDay
theorem dX2_supplyNow_0 : decode cX2_supplyNow 0 = .ok (.aload_n 0, 1) := by decide +kernel
theorem dX2_supplyNow_1 : decode cX2_supplyNow 1 = .ok (.getfield 27, 3) := by decide +kernel
theorem dX2_supplyNow_4 : decode cX2_supplyNow 4 = .ok (.aload_n 0, 1) := by decide +kernel
theorem dX2_supplyNow_5 : decode cX2_supplyNow 5 = .ok (.invokevirtual 94, 3) := by decide +kernel
theorem dX2_supplyNow_8 : decode cX2_supplyNow 8 = .ok (.iaload, 1) := by decide +kernel
theorem dX2_supplyNow_9 : decode cX2_supplyNow 9 = .ok (.ireturn, 1) := by decide +kernel
theorem dX2_isYounger_0 : decode cX2_isYounger 0 = .ok (.aload_n 0, 1) := by decide +kernel
theorem dX2_isYounger_1 : decode cX2_isYounger 1 = .ok (.getfield 19, 3) := by decide +kernel
theorem dX2_isYounger_4 : decode cX2_isYounger 4 = .ok (.iload_n 1, 1) := by decide +kernel
theorem dX2_isYounger_5 : decode cX2_isYounger 5 = .ok (.aaload, 1) := by decide +kernel
theorem dX2_isYounger_6 : decode cX2_isYounger 6 = .ok (.getfield 81, 3) := by decide +kernel
theorem dX2_isYounger_9 : decode cX2_isYounger 9 = .ok (.istore_n 3, 1) := by decide +kernel
theorem dX2_isYounger_10 : decode cX2_isYounger 10 = .ok (.aload_n 0, 1) := by decide +kernel
theorem dX2_isYounger_11 : decode cX2_isYounger 11 = .ok (.getfield 19, 3) := by decide +kernel
theorem dX2_isYounger_14 : decode cX2_isYounger 14 = .ok (.iload_n 2, 1) := by decide +kernel
theorem dX2_isYounger_15 : decode cX2_isYounger 15 = .ok (.aaload, 1) := by decide +kernel
theorem dX2_isYounger_16 : decode cX2_isYounger 16 = .ok (.getfield 81, 3) := by decide +kernel
theorem dX2_isYounger_19 : decode cX2_isYounger 19 = .ok (.istore 4, 2) := by decide +kernel
theorem dX2_isYounger_21 : decode cX2_isYounger 21 = .ok (.iload_n 3, 1) := by decide +kernel
theorem dX2_isYounger_22 : decode cX2_isYounger 22 = .ok (.iload 4, 2) := by decide +kernel
theorem dX2_isYounger_24 : decode cX2_isYounger 24 = .ok (.if_icmp .gt 14, 3) := by decide +kernel
theorem dX2_isYounger_27 : decode cX2_isYounger 27 = .ok (.iload_n 3, 1) := by decide +kernel
theorem dX2_isYounger_28 : decode cX2_isYounger 28 = .ok (.iload 4, 2) := by decide +kernel
theorem dX2_isYounger_30 : decode cX2_isYounger 30 = .ok (.if_icmp .ne 12, 3) := by decide +kernel
theorem dX2_isYounger_33 : decode cX2_isYounger 33 = .ok (.iload_n 1, 1) := by decide +kernel
theorem dX2_isYounger_34 : decode cX2_isYounger 34 = .ok (.iload_n 2, 1) := by decide +kernel
theorem dX2_isYounger_35 : decode cX2_isYounger 35 = .ok (.if_icmp .le 7, 3) := by decide +kernel
theorem dX2_isYounger_38 : decode cX2_isYounger 38 = .ok (.iconst 1, 1) := by decide +kernel
theorem dX2_isYounger_39 : decode cX2_isYounger 39 = .ok (.goto 4, 3) := by decide +kernel
theorem dX2_isYounger_42 : decode cX2_isYounger 42 = .ok (.iconst 0, 1) := by decide +kernel
theorem dX2_isYounger_43 : decode cX2_isYounger 43 = .ok (.ireturn, 1) := by decide +kernel
set_option maxRecDepth 20000 in
theorem ggX2_userInTurn_J9_floorMod_7cf53 : GoodIn wsX2_userInTurn wsJ9_floorMod_7cf53 := goodIn_r _ [9] (by decide +kernel) (by decide +kernel)
set_option maxRecDepth 20000 in
theorem gX2_userInTurn_J9_floorMod_7cf53 : GoodIn wsX2_userInTurn (va_wsS RX2 91 yJ9_floorMod_7cf53 wsJ9_floorMod_7cf53) := goodIn_app (goodIn_of _ (by decide +kernel)) ggX2_userInTurn_J9_floorMod_7cf53
theorem dX2_userInTurn_0 : decode cX2_userInTurn 0 = .ok (.iconst 0, 1) := by decide +kernel
theorem dX2_userInTurn_1 : decode cX2_userInTurn 1 = .ok (.istore_n 1, 1) := by decide +kernel
theorem dX2_userInTurn_2 : decode cX2_userInTurn 2 = .ok (.iconst 0, 1) := by decide +kernel
theorem dX2_userInTurn_3 : decode cX2_userInTurn 3 = .ok (.istore_n 2, 1) := by decide +kernel
theorem dX2_userInTurn_4 : decode cX2_userInTurn 4 = .ok (.iload_n 2, 1) := by decide +kernel
theorem dX2_userInTurn_5 : decode cX2_userInTurn 5 = .ok (.aload_n 0, 1) := by decide +kernel
theorem dX2_userInTurn_6 : decode cX2_userInTurn 6 = .ok (.getfield 64, 3) := by decide +kernel
theorem dX2_userInTurn_9 : decode cX2_userInTurn 9 = .ok (.if_icmp .ge 21, 3) := by decide +kernel
theorem dX2_userInTurn_12 : decode cX2_userInTurn 12 = .ok (.iload_n 1, 1) := by decide +kernel
theorem dX2_userInTurn_13 : decode cX2_userInTurn 13 = .ok (.aload_n 0, 1) := by decide +kernel
theorem dX2_userInTurn_14 : decode cX2_userInTurn 14 = .ok (.getfield 19, 3) := by decide +kernel
theorem dX2_userInTurn_17 : decode cX2_userInTurn 17 = .ok (.iload_n 2, 1) := by decide +kernel
theorem dX2_userInTurn_18 : decode cX2_userInTurn 18 = .ok (.aaload, 1) := by decide +kernel
theorem dX2_userInTurn_19 : decode cX2_userInTurn 19 = .ok (.getfield 98, 3) := by decide +kernel
theorem dX2_userInTurn_22 : decode cX2_userInTurn 22 = .ok (.iadd, 1) := by decide +kernel
theorem dX2_userInTurn_23 : decode cX2_userInTurn 23 = .ok (.istore_n 1, 1) := by decide +kernel
theorem dX2_userInTurn_24 : decode cX2_userInTurn 24 = .ok (.iinc 2 1, 3) := by decide +kernel
theorem dX2_userInTurn_27 : decode cX2_userInTurn 27 = .ok (.goto (-23), 3) := by decide +kernel
theorem dX2_userInTurn_30 : decode cX2_userInTurn 30 = .ok (.aload_n 0, 1) := by decide +kernel
theorem dX2_userInTurn_31 : decode cX2_userInTurn 31 = .ok (.getfield 33, 3) := by decide +kernel
theorem dX2_userInTurn_34 : decode cX2_userInTurn 34 = .ok (.iconst 1, 1) := by decide +kernel
theorem dX2_userInTurn_35 : decode cX2_userInTurn 35 = .ok (.if_icmp .ne 7, 3) := by decide +kernel
theorem dX2_userInTurn_38 : decode cX2_userInTurn 38 = .ok (.iload_n 1, 1) := by decide +kernel
theorem dX2_userInTurn_39 : decode cX2_userInTurn 39 = .ok (.ifCond .gt 6, 3) := by decide +kernel
theorem dX2_userInTurn_42 : decode cX2_userInTurn 42 = .ok (.bipush (-105), 2) := by decide +kernel
theorem dX2_userInTurn_44 : decode cX2_userInTurn 44 = .ok (.ireturn, 1) := by decide +kernel
theorem dX2_userInTurn_45 : decode cX2_userInTurn 45 = .ok (.aload_n 0, 1) := by decide +kernel
theorem dX2_userInTurn_46 : decode cX2_userInTurn 46 = .ok (.getfield 71, 3) := by decide +kernel
theorem dX2_userInTurn_49 : decode cX2_userInTurn 49 = .ok (.iload_n 1, 1) := by decide +kernel
theorem dX2_userInTurn_50 : decode cX2_userInTurn 50 = .ok (.invokestatic 91, 3) := by decide +kernel
theorem dX2_userInTurn_53 : decode cX2_userInTurn 53 = .ok (.istore_n 2, 1) := by decide +kernel
theorem dX2_userInTurn_54 : decode cX2_userInTurn 54 = .ok (.iconst 0, 1) := by decide +kernel
theorem dX2_userInTurn_55 : decode cX2_userInTurn 55 = .ok (.istore_n 3, 1) := by decide +kernel
theorem dX2_userInTurn_56 : decode cX2_userInTurn 56 = .ok (.iload_n 3, 1) := by decide +kernel
theorem dX2_userInTurn_57 : decode cX2_userInTurn 57 = .ok (.aload_n 0, 1) := by decide +kernel
theorem dX2_userInTurn_58 : decode cX2_userInTurn 58 = .ok (.getfield 64, 3) := by decide +kernel
theorem dX2_userInTurn_61 : decode cX2_userInTurn 61 = .ok (.if_icmp .ge 36, 3) := by decide +kernel
theorem dX2_userInTurn_64 : decode cX2_userInTurn 64 = .ok (.iload_n 2, 1) := by decide +kernel
theorem dX2_userInTurn_65 : decode cX2_userInTurn 65 = .ok (.aload_n 0, 1) := by decide +kernel
theorem dX2_userInTurn_66 : decode cX2_userInTurn 66 = .ok (.getfield 19, 3) := by decide +kernel
theorem dX2_userInTurn_69 : decode cX2_userInTurn 69 = .ok (.iload_n 3, 1) := by decide +kernel
theorem dX2_userInTurn_70 : decode cX2_userInTurn 70 = .ok (.aaload, 1) := by decide +kernel
theorem dX2_userInTurn_71 : decode cX2_userInTurn 71 = .ok (.getfield 98, 3) := by decide +kernel
theorem dX2_userInTurn_74 : decode cX2_userInTurn 74 = .ok (.if_icmp .ge 5, 3) := by decide +kernel
theorem dX2_userInTurn_77 : decode cX2_userInTurn 77 = .ok (.iload_n 3, 1) := by decide +kernel
theorem dX2_userInTurn_78 : decode cX2_userInTurn 78 = .ok (.ireturn, 1) := by decide +kernel
theorem dX2_userInTurn_79 : decode cX2_userInTurn 79 = .ok (.iload_n 2, 1) := by decide +kernel
theorem dX2_userInTurn_80 : decode cX2_userInTurn 80 = .ok (.aload_n 0, 1) := by decide +kernel
theorem dX2_userInTurn_81 : decode cX2_userInTurn 81 = .ok (.getfield 19, 3) := by decide +kernel
theorem dX2_userInTurn_84 : decode cX2_userInTurn 84 = .ok (.iload_n 3, 1) := by decide +kernel
theorem dX2_userInTurn_85 : decode cX2_userInTurn 85 = .ok (.aaload, 1) := by decide +kernel
theorem dX2_userInTurn_86 : decode cX2_userInTurn 86 = .ok (.getfield 98, 3) := by decide +kernel
theorem dX2_userInTurn_89 : decode cX2_userInTurn 89 = .ok (.isub, 1) := by decide +kernel
theorem dX2_userInTurn_90 : decode cX2_userInTurn 90 = .ok (.istore_n 2, 1) := by decide +kernel
theorem dX2_userInTurn_91 : decode cX2_userInTurn 91 = .ok (.iinc 3 1, 3) := by decide +kernel
theorem dX2_userInTurn_94 : decode cX2_userInTurn 94 = .ok (.goto (-38), 3) := by decide +kernel
theorem dX2_userInTurn_97 : decode cX2_userInTurn 97 = .ok (.bipush (-105), 2) := by decide +kernel
theorem dX2_userInTurn_99 : decode cX2_userInTurn 99 = .ok (.ireturn, 1) := by decide +kernel
set_option maxRecDepth 20000 in
theorem ggX2_unitsAsked_X2_hourOfDay : GoodIn wsX2_unitsAsked wsX2_hourOfDay := goodIn_r _ [12, 13, 14, 15, 16, 17, 32, 33, 34, 35, 36, 37, 38, 39, 40, 41] (by decide +kernel) (by decide +kernel)
set_option maxRecDepth 20000 in
theorem gX2_unitsAsked_X2_hourOfDay : GoodIn wsX2_unitsAsked (wsV RX2 94 RX2 yX2_hourOfDay wsX2_hourOfDay) := goodIn_app (goodIn_of _ (by decide +kernel)) ggX2_unitsAsked_X2_hourOfDay
set_option maxRecDepth 20000 in
theorem ggX2_unitsAsked_X4_needAt : GoodIn wsX2_unitsAsked wsX4_needAt := goodIn_r _ [22, 23, 24, 25, 42, 43, 44, 45, 46, 47, 48, 49, 50, 51, 52, 53] (by decide +kernel) (by decide +kernel)
set_option maxRecDepth 20000 in
theorem gX2_unitsAsked_X4_needAt : GoodIn wsX2_unitsAsked (wsV RX2 105 RX4 yX4_needAt wsX4_needAt) := goodIn_app (goodIn_of _ (by decide +kernel)) ggX2_unitsAsked_X4_needAt
set_option maxRecDepth 20000 in
theorem ggX2_unitsAsked_X4_room : GoodIn wsX2_unitsAsked wsX4_room := goodIn_r _ [29, 30, 31, 42, 43, 44, 45, 46, 47, 48, 49, 50, 51, 52, 53] (by decide +kernel) (by decide +kernel)
set_option maxRecDepth 20000 in
theorem gX2_unitsAsked_X4_room : GoodIn wsX2_unitsAsked (wsV RX2 109 RX4 yX4_room wsX4_room) := goodIn_app (goodIn_of _ (by decide +kernel)) ggX2_unitsAsked_X4_room
theorem dX2_unitsAsked_0 : decode cX2_unitsAsked 0 = .ok (.aload_n 0, 1) := by decide +kernel
theorem dX2_unitsAsked_1 : decode cX2_unitsAsked 1 = .ok (.getfield 19, 3) := by decide +kernel
theorem dX2_unitsAsked_4 : decode cX2_unitsAsked 4 = .ok (.iload_n 1, 1) := by decide +kernel
theorem dX2_unitsAsked_5 : decode cX2_unitsAsked 5 = .ok (.aaload, 1) := by decide +kernel
theorem dX2_unitsAsked_6 : decode cX2_unitsAsked 6 = .ok (.astore_n 3, 1) := by decide +kernel
theorem dX2_unitsAsked_7 : decode cX2_unitsAsked 7 = .ok (.aload_n 3, 1) := by decide +kernel
theorem dX2_unitsAsked_8 : decode cX2_unitsAsked 8 = .ok (.getfield 101, 3) := by decide +kernel
theorem dX2_unitsAsked_11 : decode cX2_unitsAsked 11 = .ok (.ifCond .eq 5, 3) := by decide +kernel
theorem dX2_unitsAsked_14 : decode cX2_unitsAsked 14 = .ok (.iconst 0, 1) := by decide +kernel
theorem dX2_unitsAsked_15 : decode cX2_unitsAsked 15 = .ok (.ireturn, 1) := by decide +kernel
theorem dX2_unitsAsked_16 : decode cX2_unitsAsked 16 = .ok (.aload_n 3, 1) := by decide +kernel
theorem dX2_unitsAsked_17 : decode cX2_unitsAsked 17 = .ok (.aload_n 0, 1) := by decide +kernel
theorem dX2_unitsAsked_18 : decode cX2_unitsAsked 18 = .ok (.invokevirtual 94, 3) := by decide +kernel
theorem dX2_unitsAsked_21 : decode cX2_unitsAsked 21 = .ok (.invokevirtual 105, 3) := by decide +kernel
theorem dX2_unitsAsked_24 : decode cX2_unitsAsked 24 = .ok (.aload_n 3, 1) := by decide +kernel
theorem dX2_unitsAsked_25 : decode cX2_unitsAsked 25 = .ok (.invokevirtual 109, 3) := by decide +kernel
theorem dX2_unitsAsked_28 : decode cX2_unitsAsked 28 = .ok (.iadd, 1) := by decide +kernel
theorem dX2_unitsAsked_29 : decode cX2_unitsAsked 29 = .ok (.istore 4, 2) := by decide +kernel
theorem dX2_unitsAsked_31 : decode cX2_unitsAsked 31 = .ok (.iload_n 1, 1) := by decide +kernel
theorem dX2_unitsAsked_32 : decode cX2_unitsAsked 32 = .ok (.iload_n 2, 1) := by decide +kernel
theorem dX2_unitsAsked_33 : decode cX2_unitsAsked 33 = .ok (.if_icmp .ne 8, 3) := by decide +kernel
theorem dX2_unitsAsked_36 : decode cX2_unitsAsked 36 = .ok (.iload 4, 2) := by decide +kernel
theorem dX2_unitsAsked_38 : decode cX2_unitsAsked 38 = .ok (.goto 12, 3) := by decide +kernel
theorem dX2_unitsAsked_41 : decode cX2_unitsAsked 41 = .ok (.aload_n 3, 1) := by decide +kernel
theorem dX2_unitsAsked_42 : decode cX2_unitsAsked 42 = .ok (.getfield 112, 3) := by decide +kernel
theorem dX2_unitsAsked_45 : decode cX2_unitsAsked 45 = .ok (.iload 4, 2) := by decide +kernel
theorem dX2_unitsAsked_47 : decode cX2_unitsAsked 47 = .ok (.invokestatic 115, 3) := by decide +kernel
theorem dX2_unitsAsked_50 : decode cX2_unitsAsked 50 = .ok (.ireturn, 1) := by decide +kernel
set_option maxRecDepth 20000 in
theorem ggX2_passHour_X1_distribute : GoodIn wsX2_passHour wsX1_distribute := goodIn_r _ [12, 13, 14, 15, 16, 17, 18, 19, 20, 21, 22, 23, 24, 25, 26, 27, 28, 7, 29, 30, 31, 32, 33, 34, 35, 36, 4, 5, 37, 38, 39, 40, 41, 42, 43, 44, 45, 46, 47, 48, 49, 50, 51, 52, 53, 54, 55, 56, 57, 58, 59, 60, 61, 62, 63, 64, 65, 11, 66, 67, 68, 69, 70, 71, 72, 73, 74, 75, 76, 77, 78, 79, 80, 81, 82, 83, 84, 85, 86, 87, 88, 89, 90, 91, 92, 93, 94, 95, 96, 97, 98, 99, 100, 101, 102, 103, 104, 105, 106, 107, 108, 109, 110, 133, 134, 135, 136, 137, 138, 123, 124, 125, 126, 127, 128, 129, 130, 131, 132, 139, 140, 141, 142, 143, 144, 145, 146, 147, 148, 149, 150, 151, 152, 153] (by decide +kernel) (by decide +kernel)
set_option maxRecDepth 20000 in
theorem gX2_passHour_X1_distribute : GoodIn wsX2_passHour (wsV RX2 118 RX1 yX1_distribute wsX1_distribute) := goodIn_app (goodIn_of _ (by decide +kernel)) ggX2_passHour_X1_distribute
set_option maxRecDepth 20000 in
theorem ggX2_passHour_X2_supplyNow : GoodIn wsX2_passHour wsX2_supplyNow := goodIn_r _ [23, 24, 25, 26, 27, 22, 28, 7, 29, 30, 31, 32, 123, 124, 125, 126, 127, 128, 129, 130, 131, 132] (by decide +kernel) (by decide +kernel)
set_option maxRecDepth 20000 in
theorem gX2_passHour_X2_supplyNow : GoodIn wsX2_passHour (wsV RX2 127 RX2 yX2_supplyNow wsX2_supplyNow) := goodIn_app (goodIn_of _ (by decide +kernel)) ggX2_passHour_X2_supplyNow
set_option maxRecDepth 20000 in
theorem ggX2_passHour_X1_lostIn : GoodIn wsX2_passHour wsX1_lostIn := goodIn_r _ [115, 79, 76, 133, 134, 135, 136, 137, 138] (by decide +kernel) (by decide +kernel)
set_option maxRecDepth 20000 in
theorem gX2_passHour_X1_lostIn : GoodIn wsX2_passHour (wsV RX2 130 RX1 yX1_lostIn wsX1_lostIn) := goodIn_app (goodIn_of _ (by decide +kernel)) ggX2_passHour_X1_lostIn
set_option maxRecDepth 20000 in
theorem ggX2_passHour_X2_useWater : GoodIn wsX2_passHour wsX2_useWater := goodIn_r _ [119, 120, 45, 46, 47, 48, 121, 122, 43, 1, 25, 26, 27, 22, 28, 7, 29, 30, 31, 32, 49, 50, 51, 52, 53, 54, 55, 56, 139, 140, 141, 142, 143, 144, 145, 146, 147, 148, 149, 150, 123, 124, 125, 126, 127, 128, 129, 130, 131, 132] (by decide +kernel) (by decide +kernel)
set_option maxRecDepth 20000 in
theorem gX2_passHour_X2_useWater : GoodIn wsX2_passHour (wsV RX2 136 RX2 yX2_useWater wsX2_useWater) := goodIn_app (goodIn_of _ (by decide +kernel)) ggX2_passHour_X2_useWater
theorem dX2_passHour_0 : decode cX2_passHour 0 = .ok (.aload_n 1, 1) := by decide +kernel
theorem dX2_passHour_1 : decode cX2_passHour 1 = .ok (.aload_n 0, 1) := by decide +kernel
theorem dX2_passHour_2 : decode cX2_passHour 2 = .ok (.invokevirtual 118, 3) := by decide +kernel
theorem dX2_passHour_5 : decode cX2_passHour 5 = .ok (.aload_n 0, 1) := by decide +kernel
theorem dX2_passHour_6 : decode cX2_passHour 6 = .ok (.getfield 30, 3) := by decide +kernel
theorem dX2_passHour_9 : decode cX2_passHour 9 = .ok (.bipush 6, 2) := by decide +kernel
theorem dX2_passHour_11 : decode cX2_passHour 11 = .ok (.iaload, 1) := by decide +kernel
theorem dX2_passHour_12 : decode cX2_passHour 12 = .ok (.istore_n 2, 1) := by decide +kernel
theorem dX2_passHour_13 : decode cX2_passHour 13 = .ok (.aload_n 0, 1) := by decide +kernel
theorem dX2_passHour_14 : decode cX2_passHour 14 = .ok (.getfield 30, 3) := by decide +kernel
theorem dX2_passHour_17 : decode cX2_passHour 17 = .ok (.iconst 0, 1) := by decide +kernel
theorem dX2_passHour_18 : decode cX2_passHour 18 = .ok (.dup2, 1) := by decide +kernel
theorem dX2_passHour_19 : decode cX2_passHour 19 = .ok (.iaload, 1) := by decide +kernel
theorem dX2_passHour_20 : decode cX2_passHour 20 = .ok (.aload_n 1, 1) := by decide +kernel
theorem dX2_passHour_21 : decode cX2_passHour 21 = .ok (.getfield 124, 3) := by decide +kernel
theorem dX2_passHour_24 : decode cX2_passHour 24 = .ok (.iconst 0, 1) := by decide +kernel
theorem dX2_passHour_25 : decode cX2_passHour 25 = .ok (.iaload, 1) := by decide +kernel
theorem dX2_passHour_26 : decode cX2_passHour 26 = .ok (.iadd, 1) := by decide +kernel
theorem dX2_passHour_27 : decode cX2_passHour 27 = .ok (.iastore, 1) := by decide +kernel
theorem dX2_passHour_28 : decode cX2_passHour 28 = .ok (.aload_n 0, 1) := by decide +kernel
theorem dX2_passHour_29 : decode cX2_passHour 29 = .ok (.getfield 30, 3) := by decide +kernel
theorem dX2_passHour_32 : decode cX2_passHour 32 = .ok (.iconst 1, 1) := by decide +kernel
theorem dX2_passHour_33 : decode cX2_passHour 33 = .ok (.dup2, 1) := by decide +kernel
theorem dX2_passHour_34 : decode cX2_passHour 34 = .ok (.iaload, 1) := by decide +kernel
theorem dX2_passHour_35 : decode cX2_passHour 35 = .ok (.aload_n 0, 1) := by decide +kernel
theorem dX2_passHour_36 : decode cX2_passHour 36 = .ok (.invokevirtual 127, 3) := by decide +kernel
theorem dX2_passHour_39 : decode cX2_passHour 39 = .ok (.aload_n 1, 1) := by decide +kernel
theorem dX2_passHour_40 : decode cX2_passHour 40 = .ok (.getfield 124, 3) := by decide +kernel
theorem dX2_passHour_43 : decode cX2_passHour 43 = .ok (.iconst 0, 1) := by decide +kernel
theorem dX2_passHour_44 : decode cX2_passHour 44 = .ok (.iaload, 1) := by decide +kernel
theorem dX2_passHour_45 : decode cX2_passHour 45 = .ok (.isub, 1) := by decide +kernel
theorem dX2_passHour_46 : decode cX2_passHour 46 = .ok (.iadd, 1) := by decide +kernel
theorem dX2_passHour_47 : decode cX2_passHour 47 = .ok (.iastore, 1) := by decide +kernel
theorem dX2_passHour_48 : decode cX2_passHour 48 = .ok (.iconst 0, 1) := by decide +kernel
theorem dX2_passHour_49 : decode cX2_passHour 49 = .ok (.istore_n 3, 1) := by decide +kernel
theorem dX2_passHour_50 : decode cX2_passHour 50 = .ok (.iload_n 3, 1) := by decide +kernel
theorem dX2_passHour_51 : decode cX2_passHour 51 = .ok (.aload_n 0, 1) := by decide +kernel
theorem dX2_passHour_52 : decode cX2_passHour 52 = .ok (.getfield 49, 3) := by decide +kernel
theorem dX2_passHour_55 : decode cX2_passHour 55 = .ok (.if_icmp .ge 23, 3) := by decide +kernel
theorem dX2_passHour_58 : decode cX2_passHour 58 = .ok (.aload_n 0, 1) := by decide +kernel
theorem dX2_passHour_59 : decode cX2_passHour 59 = .ok (.getfield 30, 3) := by decide +kernel
theorem dX2_passHour_62 : decode cX2_passHour 62 = .ok (.iconst 2, 1) := by decide +kernel
theorem dX2_passHour_63 : decode cX2_passHour 63 = .ok (.dup2, 1) := by decide +kernel
theorem dX2_passHour_64 : decode cX2_passHour 64 = .ok (.iaload, 1) := by decide +kernel
theorem dX2_passHour_65 : decode cX2_passHour 65 = .ok (.aload_n 1, 1) := by decide +kernel
theorem dX2_passHour_66 : decode cX2_passHour 66 = .ok (.iload_n 3, 1) := by decide +kernel
theorem dX2_passHour_67 : decode cX2_passHour 67 = .ok (.invokevirtual 130, 3) := by decide +kernel
theorem dX2_passHour_70 : decode cX2_passHour 70 = .ok (.iadd, 1) := by decide +kernel
theorem dX2_passHour_71 : decode cX2_passHour 71 = .ok (.iastore, 1) := by decide +kernel
theorem dX2_passHour_72 : decode cX2_passHour 72 = .ok (.iinc 3 1, 3) := by decide +kernel
theorem dX2_passHour_75 : decode cX2_passHour 75 = .ok (.goto (-25), 3) := by decide +kernel
theorem dX2_passHour_78 : decode cX2_passHour 78 = .ok (.iconst 0, 1) := by decide +kernel
theorem dX2_passHour_79 : decode cX2_passHour 79 = .ok (.istore_n 3, 1) := by decide +kernel
theorem dX2_passHour_80 : decode cX2_passHour 80 = .ok (.iload_n 3, 1) := by decide +kernel
theorem dX2_passHour_81 : decode cX2_passHour 81 = .ok (.aload_n 0, 1) := by decide +kernel
theorem dX2_passHour_82 : decode cX2_passHour 82 = .ok (.getfield 64, 3) := by decide +kernel
theorem dX2_passHour_85 : decode cX2_passHour 85 = .ok (.if_icmp .ge 25, 3) := by decide +kernel
theorem dX2_passHour_88 : decode cX2_passHour 88 = .ok (.aload_n 0, 1) := by decide +kernel
theorem dX2_passHour_89 : decode cX2_passHour 89 = .ok (.aload_n 0, 1) := by decide +kernel
theorem dX2_passHour_90 : decode cX2_passHour 90 = .ok (.getfield 19, 3) := by decide +kernel
theorem dX2_passHour_93 : decode cX2_passHour 93 = .ok (.iload_n 3, 1) := by decide +kernel
theorem dX2_passHour_94 : decode cX2_passHour 94 = .ok (.aaload, 1) := by decide +kernel
theorem dX2_passHour_95 : decode cX2_passHour 95 = .ok (.aload_n 1, 1) := by decide +kernel
theorem dX2_passHour_96 : decode cX2_passHour 96 = .ok (.getfield 133, 3) := by decide +kernel
theorem dX2_passHour_99 : decode cX2_passHour 99 = .ok (.iload_n 3, 1) := by decide +kernel
theorem dX2_passHour_100 : decode cX2_passHour 100 = .ok (.iaload, 1) := by decide +kernel
theorem dX2_passHour_101 : decode cX2_passHour 101 = .ok (.invokevirtual 136, 3) := by decide +kernel
theorem dX2_passHour_104 : decode cX2_passHour 104 = .ok (.iinc 3 1, 3) := by decide +kernel
theorem dX2_passHour_107 : decode cX2_passHour 107 = .ok (.goto (-27), 3) := by decide +kernel
theorem dX2_passHour_110 : decode cX2_passHour 110 = .ok (.aload_n 0, 1) := by decide +kernel
theorem dX2_passHour_111 : decode cX2_passHour 111 = .ok (.dup, 1) := by decide +kernel
theorem dX2_passHour_112 : decode cX2_passHour 112 = .ok (.getfield 71, 3) := by decide +kernel
theorem dX2_passHour_115 : decode cX2_passHour 115 = .ok (.iconst 1, 1) := by decide +kernel
theorem dX2_passHour_116 : decode cX2_passHour 116 = .ok (.iadd, 1) := by decide +kernel
theorem dX2_passHour_117 : decode cX2_passHour 117 = .ok (.putfield 71, 3) := by decide +kernel
theorem dX2_passHour_120 : decode cX2_passHour 120 = .ok (.aload_n 0, 1) := by decide +kernel
theorem dX2_passHour_121 : decode cX2_passHour 121 = .ok (.getfield 30, 3) := by decide +kernel
theorem dX2_passHour_124 : decode cX2_passHour 124 = .ok (.bipush 6, 2) := by decide +kernel
theorem dX2_passHour_126 : decode cX2_passHour 126 = .ok (.iaload, 1) := by decide +kernel
theorem dX2_passHour_127 : decode cX2_passHour 127 = .ok (.iload_n 2, 1) := by decide +kernel
theorem dX2_passHour_128 : decode cX2_passHour 128 = .ok (.isub, 1) := by decide +kernel
theorem dX2_passHour_129 : decode cX2_passHour 129 = .ok (.ireturn, 1) := by decide +kernel
set_option maxRecDepth 20000 in
theorem ggX2_useWater_X2_hourOfDay : GoodIn wsX2_useWater wsX2_hourOfDay := goodIn_r _ [14, 15, 16, 17, 18, 19, 40, 41, 42, 43, 44, 45, 46, 47, 48, 49] (by decide +kernel) (by decide +kernel)
set_option maxRecDepth 20000 in
theorem gX2_useWater_X2_hourOfDay : GoodIn wsX2_useWater (wsV RX2 94 RX2 yX2_hourOfDay wsX2_hourOfDay) := goodIn_app (goodIn_of _ (by decide +kernel)) ggX2_useWater_X2_hourOfDay
set_option maxRecDepth 20000 in
theorem ggX2_useWater_X4_needAt : GoodIn wsX2_useWater wsX4_needAt := goodIn_r _ [24, 25, 26, 27, 28, 29, 30, 31, 32, 33, 34, 35, 36, 37, 38, 39] (by decide +kernel) (by decide +kernel)
set_option maxRecDepth 20000 in
theorem gX2_useWater_X4_needAt : GoodIn wsX2_useWater (wsV RX2 105 RX4 yX4_needAt wsX4_needAt) := goodIn_app (goodIn_of _ (by decide +kernel)) ggX2_useWater_X4_needAt
theorem dX2_useWater_0 : decode cX2_useWater 0 = .ok (.aload_n 1, 1) := by decide +kernel
theorem dX2_useWater_1 : decode cX2_useWater 1 = .ok (.aload_n 0, 1) := by decide +kernel
theorem dX2_useWater_2 : decode cX2_useWater 2 = .ok (.invokevirtual 94, 3) := by decide +kernel
theorem dX2_useWater_5 : decode cX2_useWater 5 = .ok (.invokevirtual 105, 3) := by decide +kernel
theorem dX2_useWater_8 : decode cX2_useWater 8 = .ok (.istore_n 3, 1) := by decide +kernel
theorem dX2_useWater_9 : decode cX2_useWater 9 = .ok (.iload_n 2, 1) := by decide +kernel
theorem dX2_useWater_10 : decode cX2_useWater 10 = .ok (.aload_n 1, 1) := by decide +kernel
theorem dX2_useWater_11 : decode cX2_useWater 11 = .ok (.getfield 140, 3) := by decide +kernel
theorem dX2_useWater_14 : decode cX2_useWater 14 = .ok (.iadd, 1) := by decide +kernel
theorem dX2_useWater_15 : decode cX2_useWater 15 = .ok (.istore 4, 2) := by decide +kernel
theorem dX2_useWater_17 : decode cX2_useWater 17 = .ok (.iload_n 3, 1) := by decide +kernel
theorem dX2_useWater_18 : decode cX2_useWater 18 = .ok (.iload 4, 2) := by decide +kernel
theorem dX2_useWater_20 : decode cX2_useWater 20 = .ok (.invokestatic 115, 3) := by decide +kernel
theorem dX2_useWater_23 : decode cX2_useWater 23 = .ok (.istore 5, 2) := by decide +kernel
theorem dX2_useWater_25 : decode cX2_useWater 25 = .ok (.aload_n 1, 1) := by decide +kernel
theorem dX2_useWater_26 : decode cX2_useWater 26 = .ok (.getfield 143, 3) := by decide +kernel
theorem dX2_useWater_29 : decode cX2_useWater 29 = .ok (.iload 4, 2) := by decide +kernel
theorem dX2_useWater_31 : decode cX2_useWater 31 = .ok (.iload 5, 2) := by decide +kernel
theorem dX2_useWater_33 : decode cX2_useWater 33 = .ok (.isub, 1) := by decide +kernel
theorem dX2_useWater_34 : decode cX2_useWater 34 = .ok (.invokestatic 115, 3) := by decide +kernel
theorem dX2_useWater_37 : decode cX2_useWater 37 = .ok (.istore 6, 2) := by decide +kernel
theorem dX2_useWater_39 : decode cX2_useWater 39 = .ok (.aload_n 1, 1) := by decide +kernel
theorem dX2_useWater_40 : decode cX2_useWater 40 = .ok (.iload 4, 2) := by decide +kernel
theorem dX2_useWater_42 : decode cX2_useWater 42 = .ok (.iload 5, 2) := by decide +kernel
theorem dX2_useWater_44 : decode cX2_useWater 44 = .ok (.isub, 1) := by decide +kernel
theorem dX2_useWater_45 : decode cX2_useWater 45 = .ok (.iload 6, 2) := by decide +kernel
theorem dX2_useWater_47 : decode cX2_useWater 47 = .ok (.isub, 1) := by decide +kernel
theorem dX2_useWater_48 : decode cX2_useWater 48 = .ok (.putfield 140, 3) := by decide +kernel
theorem dX2_useWater_51 : decode cX2_useWater 51 = .ok (.aload_n 1, 1) := by decide +kernel
theorem dX2_useWater_52 : decode cX2_useWater 52 = .ok (.dup, 1) := by decide +kernel
theorem dX2_useWater_53 : decode cX2_useWater 53 = .ok (.getfield 146, 3) := by decide +kernel
theorem dX2_useWater_56 : decode cX2_useWater 56 = .ok (.iload_n 3, 1) := by decide +kernel
theorem dX2_useWater_57 : decode cX2_useWater 57 = .ok (.iload 5, 2) := by decide +kernel
theorem dX2_useWater_59 : decode cX2_useWater 59 = .ok (.isub, 1) := by decide +kernel
theorem dX2_useWater_60 : decode cX2_useWater 60 = .ok (.iadd, 1) := by decide +kernel
theorem dX2_useWater_61 : decode cX2_useWater 61 = .ok (.putfield 146, 3) := by decide +kernel
theorem dX2_useWater_64 : decode cX2_useWater 64 = .ok (.aload_n 1, 1) := by decide +kernel
theorem dX2_useWater_65 : decode cX2_useWater 65 = .ok (.iconst 0, 1) := by decide +kernel
theorem dX2_useWater_66 : decode cX2_useWater 66 = .ok (.putfield 101, 3) := by decide +kernel
theorem dX2_useWater_69 : decode cX2_useWater 69 = .ok (.aload_n 0, 1) := by decide +kernel
theorem dX2_useWater_70 : decode cX2_useWater 70 = .ok (.getfield 30, 3) := by decide +kernel
theorem dX2_useWater_73 : decode cX2_useWater 73 = .ok (.iconst 3, 1) := by decide +kernel
theorem dX2_useWater_74 : decode cX2_useWater 74 = .ok (.dup2, 1) := by decide +kernel
theorem dX2_useWater_75 : decode cX2_useWater 75 = .ok (.iaload, 1) := by decide +kernel
theorem dX2_useWater_76 : decode cX2_useWater 76 = .ok (.iload_n 2, 1) := by decide +kernel
theorem dX2_useWater_77 : decode cX2_useWater 77 = .ok (.iadd, 1) := by decide +kernel
theorem dX2_useWater_78 : decode cX2_useWater 78 = .ok (.iastore, 1) := by decide +kernel
theorem dX2_useWater_79 : decode cX2_useWater 79 = .ok (.aload_n 0, 1) := by decide +kernel
theorem dX2_useWater_80 : decode cX2_useWater 80 = .ok (.getfield 30, 3) := by decide +kernel
theorem dX2_useWater_83 : decode cX2_useWater 83 = .ok (.iconst 4, 1) := by decide +kernel
theorem dX2_useWater_84 : decode cX2_useWater 84 = .ok (.dup2, 1) := by decide +kernel
theorem dX2_useWater_85 : decode cX2_useWater 85 = .ok (.iaload, 1) := by decide +kernel
theorem dX2_useWater_86 : decode cX2_useWater 86 = .ok (.iload 5, 2) := by decide +kernel
theorem dX2_useWater_88 : decode cX2_useWater 88 = .ok (.iadd, 1) := by decide +kernel
theorem dX2_useWater_89 : decode cX2_useWater 89 = .ok (.iastore, 1) := by decide +kernel
theorem dX2_useWater_90 : decode cX2_useWater 90 = .ok (.aload_n 0, 1) := by decide +kernel
theorem dX2_useWater_91 : decode cX2_useWater 91 = .ok (.getfield 30, 3) := by decide +kernel
theorem dX2_useWater_94 : decode cX2_useWater 94 = .ok (.iconst 5, 1) := by decide +kernel
theorem dX2_useWater_95 : decode cX2_useWater 95 = .ok (.dup2, 1) := by decide +kernel
theorem dX2_useWater_96 : decode cX2_useWater 96 = .ok (.iaload, 1) := by decide +kernel
theorem dX2_useWater_97 : decode cX2_useWater 97 = .ok (.iload 6, 2) := by decide +kernel
theorem dX2_useWater_99 : decode cX2_useWater 99 = .ok (.iadd, 1) := by decide +kernel
theorem dX2_useWater_100 : decode cX2_useWater 100 = .ok (.iastore, 1) := by decide +kernel
theorem dX2_useWater_101 : decode cX2_useWater 101 = .ok (.aload_n 0, 1) := by decide +kernel
theorem dX2_useWater_102 : decode cX2_useWater 102 = .ok (.getfield 30, 3) := by decide +kernel
theorem dX2_useWater_105 : decode cX2_useWater 105 = .ok (.bipush 6, 2) := by decide +kernel
theorem dX2_useWater_107 : decode cX2_useWater 107 = .ok (.dup2, 1) := by decide +kernel
theorem dX2_useWater_108 : decode cX2_useWater 108 = .ok (.iaload, 1) := by decide +kernel
theorem dX2_useWater_109 : decode cX2_useWater 109 = .ok (.iload_n 3, 1) := by decide +kernel
theorem dX2_useWater_110 : decode cX2_useWater 110 = .ok (.iload 5, 2) := by decide +kernel
theorem dX2_useWater_112 : decode cX2_useWater 112 = .ok (.isub, 1) := by decide +kernel
theorem dX2_useWater_113 : decode cX2_useWater 113 = .ok (.iadd, 1) := by decide +kernel
theorem dX2_useWater_114 : decode cX2_useWater 114 = .ok (.iastore, 1) := by decide +kernel
theorem dX2_useWater_115 : decode cX2_useWater 115 = .ok (.return_, 1) := by decide +kernel
theorem dX3_init_0 : decode cX3_init 0 = .ok (.aload_n 0, 1) := by decide +kernel
theorem dX3_init_1 : decode cX3_init 1 = .ok (.invokespecial 3, 3) := by decide +kernel
theorem dX3_init_4 : decode cX3_init 4 = .ok (.aload_n 0, 1) := by decide +kernel
theorem dX3_init_5 : decode cX3_init 5 = .ok (.bipush (-105), 2) := by decide +kernel
theorem dX3_init_7 : decode cX3_init 7 = .ok (.putfield 9, 3) := by decide +kernel
theorem dX3_init_10 : decode cX3_init 10 = .ok (.aload_n 0, 1) := by decide +kernel
theorem dX3_init_11 : decode cX3_init 11 = .ok (.bipush 100, 2) := by decide +kernel
theorem dX3_init_13 : decode cX3_init 13 = .ok (.newarray .char, 2) := by decide +kernel
theorem dX3_init_15 : decode cX3_init 15 = .ok (.putfield 15, 3) := by decide +kernel
theorem dX3_init_18 : decode cX3_init 18 = .ok (.return_, 1) := by decide +kernel
theorem dX3_isFull_0 : decode cX3_isFull 0 = .ok (.aload_n 0, 1) := by decide +kernel
theorem dX3_isFull_1 : decode cX3_isFull 1 = .ok (.getfield 19, 3) := by decide +kernel
theorem dX3_isFull_4 : decode cX3_isFull 4 = .ok (.bipush 100, 2) := by decide +kernel
theorem dX3_isFull_6 : decode cX3_isFull 6 = .ok (.if_icmp .lt 7, 3) := by decide +kernel
theorem dX3_isFull_9 : decode cX3_isFull 9 = .ok (.iconst 1, 1) := by decide +kernel
theorem dX3_isFull_10 : decode cX3_isFull 10 = .ok (.goto 4, 3) := by decide +kernel
theorem dX3_isFull_13 : decode cX3_isFull 13 = .ok (.iconst 0, 1) := by decide +kernel
theorem dX3_isFull_14 : decode cX3_isFull 14 = .ok (.ireturn, 1) := by decide +kernel
set_option maxRecDepth 20000 in
theorem ggX3_put_X3_isFull : GoodIn wsX3_put wsX3_isFull := goodIn_r _ [7, 2, 8, 9, 10, 11, 12] (by decide +kernel) (by decide +kernel)
set_option maxRecDepth 20000 in
theorem gX3_put_X3_isFull : GoodIn wsX3_put (wsV RX3 22 RX3 yX3_isFull wsX3_isFull) := goodIn_app (goodIn_of _ (by decide +kernel)) ggX3_put_X3_isFull
theorem dX3_put_0 : decode cX3_put 0 = .ok (.aload_n 0, 1) := by decide +kernel
theorem dX3_put_1 : decode cX3_put 1 = .ok (.invokevirtual 22, 3) := by decide +kernel
theorem dX3_put_4 : decode cX3_put 4 = .ok (.ifCond .eq 4, 3) := by decide +kernel
theorem dX3_put_7 : decode cX3_put 7 = .ok (.return_, 1) := by decide +kernel
theorem dX3_put_8 : decode cX3_put 8 = .ok (.aload_n 0, 1) := by decide +kernel
theorem dX3_put_9 : decode cX3_put 9 = .ok (.getfield 15, 3) := by decide +kernel
theorem dX3_put_12 : decode cX3_put 12 = .ok (.aload_n 0, 1) := by decide +kernel
theorem dX3_put_13 : decode cX3_put 13 = .ok (.getfield 19, 3) := by decide +kernel
theorem dX3_put_16 : decode cX3_put 16 = .ok (.iload_n 1, 1) := by decide +kernel
theorem dX3_put_17 : decode cX3_put 17 = .ok (.i2c, 1) := by decide +kernel
theorem dX3_put_18 : decode cX3_put 18 = .ok (.castore, 1) := by decide +kernel
theorem dX3_put_19 : decode cX3_put 19 = .ok (.aload_n 0, 1) := by decide +kernel
theorem dX3_put_20 : decode cX3_put 20 = .ok (.dup, 1) := by decide +kernel
theorem dX3_put_21 : decode cX3_put 21 = .ok (.getfield 19, 3) := by decide +kernel
theorem dX3_put_24 : decode cX3_put 24 = .ok (.iconst 1, 1) := by decide +kernel
theorem dX3_put_25 : decode cX3_put 25 = .ok (.iadd, 1) := by decide +kernel
theorem dX3_put_26 : decode cX3_put 26 = .ok (.putfield 19, 3) := by decide +kernel
theorem dX3_put_29 : decode cX3_put 29 = .ok (.return_, 1) := by decide +kernel
set_option maxRecDepth 20000 in
theorem ggX3_carryOut_X3_carryOutNext : GoodIn wsX3_carryOut wsX3_carryOutNext := goodIn_r _ [9, 1, 2, 10, 11, 12, 8, 13, 4, 14, 15, 16, 17, 18, 19, 20, 21, 22, 23, 24, 25, 26, 27, 28, 29, 30, 31, 32, 33, 34, 35, 36, 37, 38, 39, 40, 41, 42, 43, 44, 45, 46, 47, 48, 49, 50, 51, 52, 53, 54, 55, 56, 57, 58, 59, 60, 61, 62, 63, 64, 65, 66, 67, 68, 69, 70, 71, 72, 73, 74, 75, 76, 77, 78, 79, 80, 81, 82, 83, 84, 85, 86, 87, 88, 89, 90, 91, 92, 93, 94, 95, 96, 97, 98, 99, 100, 101, 102, 103, 104, 105, 106, 107, 108, 109, 110, 111, 112, 113, 114, 115, 116, 117, 118, 119, 120, 121, 122, 123, 124, 125, 126, 127, 128, 129, 130, 131, 132, 133, 134, 135, 136, 137, 138, 139, 140, 141, 142, 143, 144, 145] (by decide +kernel) (by decide +kernel)
set_option maxRecDepth 20000 in
theorem gX3_carryOut_X3_carryOutNext : GoodIn wsX3_carryOut (wsV RX3 32 RX3 yX3_carryOutNext wsX3_carryOutNext) := goodIn_app (goodIn_of _ (by decide +kernel)) ggX3_carryOut_X3_carryOutNext
theorem dX3_carryOut_0 : decode cX3_carryOut 0 = .ok (.aload_n 0, 1) := by decide +kernel
theorem dX3_carryOut_1 : decode cX3_carryOut 1 = .ok (.iconst 0, 1) := by decide +kernel
theorem dX3_carryOut_2 : decode cX3_carryOut 2 = .ok (.putfield 26, 3) := by decide +kernel
theorem dX3_carryOut_5 : decode cX3_carryOut 5 = .ok (.aload_n 0, 1) := by decide +kernel
theorem dX3_carryOut_6 : decode cX3_carryOut 6 = .ok (.bipush (-105), 2) := by decide +kernel
theorem dX3_carryOut_8 : decode cX3_carryOut 8 = .ok (.putfield 9, 3) := by decide +kernel
theorem dX3_carryOut_11 : decode cX3_carryOut 11 = .ok (.aload_n 0, 1) := by decide +kernel
theorem dX3_carryOut_12 : decode cX3_carryOut 12 = .ok (.iconst 0, 1) := by decide +kernel
theorem dX3_carryOut_13 : decode cX3_carryOut 13 = .ok (.putfield 29, 3) := by decide +kernel
theorem dX3_carryOut_16 : decode cX3_carryOut 16 = .ok (.aload_n 0, 1) := by decide +kernel
theorem dX3_carryOut_17 : decode cX3_carryOut 17 = .ok (.getfield 26, 3) := by decide +kernel
theorem dX3_carryOut_20 : decode cX3_carryOut 20 = .ok (.aload_n 0, 1) := by decide +kernel
theorem dX3_carryOut_21 : decode cX3_carryOut 21 = .ok (.getfield 19, 3) := by decide +kernel
theorem dX3_carryOut_24 : decode cX3_carryOut 24 = .ok (.if_icmp .ge 39, 3) := by decide +kernel
theorem dX3_carryOut_27 : decode cX3_carryOut 27 = .ok (.aload_n 0, 1) := by decide +kernel
theorem dX3_carryOut_28 : decode cX3_carryOut 28 = .ok (.getfield 9, 3) := by decide +kernel
theorem dX3_carryOut_31 : decode cX3_carryOut 31 = .ok (.bipush (-105), 2) := by decide +kernel
theorem dX3_carryOut_33 : decode cX3_carryOut 33 = .ok (.if_icmp .ne 30, 3) := by decide +kernel
theorem dX3_carryOut_36 : decode cX3_carryOut 36 = .ok (.aload_n 0, 1) := by decide +kernel
theorem dX3_carryOut_37 : decode cX3_carryOut 37 = .ok (.getfield 29, 3) := by decide +kernel
theorem dX3_carryOut_40 : decode cX3_carryOut 40 = .ok (.bipush 100, 2) := by decide +kernel
theorem dX3_carryOut_42 : decode cX3_carryOut 42 = .ok (.if_icmp .ge 21, 3) := by decide +kernel
theorem dX3_carryOut_45 : decode cX3_carryOut 45 = .ok (.aload_n 0, 1) := by decide +kernel
theorem dX3_carryOut_46 : decode cX3_carryOut 46 = .ok (.aload_n 1, 1) := by decide +kernel
theorem dX3_carryOut_47 : decode cX3_carryOut 47 = .ok (.invokevirtual 32, 3) := by decide +kernel
theorem dX3_carryOut_50 : decode cX3_carryOut 50 = .ok (.aload_n 0, 1) := by decide +kernel
theorem dX3_carryOut_51 : decode cX3_carryOut 51 = .ok (.dup, 1) := by decide +kernel
theorem dX3_carryOut_52 : decode cX3_carryOut 52 = .ok (.getfield 29, 3) := by decide +kernel
theorem dX3_carryOut_55 : decode cX3_carryOut 55 = .ok (.iconst 1, 1) := by decide +kernel
theorem dX3_carryOut_56 : decode cX3_carryOut 56 = .ok (.iadd, 1) := by decide +kernel
theorem dX3_carryOut_57 : decode cX3_carryOut 57 = .ok (.putfield 29, 3) := by decide +kernel
theorem dX3_carryOut_60 : decode cX3_carryOut 60 = .ok (.goto (-44), 3) := by decide +kernel
theorem dX3_carryOut_63 : decode cX3_carryOut 63 = .ok (.return_, 1) := by decide +kernel
set_option maxRecDepth 20000 in
theorem ggX3_carryOutNext_X3_letterHere : GoodIn wsX3_carryOutNext wsX3_letterHere := goodIn_r _ [7, 1, 8, 9, 111, 112, 113, 114, 115] (by decide +kernel) (by decide +kernel)
set_option maxRecDepth 20000 in
theorem gX3_carryOutNext_X3_letterHere : GoodIn wsX3_carryOutNext (wsV RX3 36 RX3 yX3_letterHere wsX3_letterHere) := goodIn_app (goodIn_of _ (by decide +kernel)) ggX3_carryOutNext_X3_letterHere
set_option maxRecDepth 20000 in
theorem ggX3_carryOutNext_X3_addDitchTo : GoodIn wsX3_carryOutNext wsX3_addDitchTo := goodIn_r _ [13, 1, 2, 14, 15, 16, 17, 18, 19, 20, 21, 22, 23, 6, 24, 8, 25, 26, 27, 28, 9, 29, 30, 31, 32, 3, 4, 5, 7, 33, 34, 35, 36, 37, 38, 39, 40, 41, 42, 43, 44, 45, 46, 47, 48, 49, 50, 51, 52, 53, 111, 112, 113, 114, 115, 116, 117, 118, 119, 120, 121, 122, 123, 124, 125, 126, 127, 128] (by decide +kernel) (by decide +kernel)
set_option maxRecDepth 20000 in
theorem gX3_carryOutNext_X3_addDitchTo : GoodIn wsX3_carryOutNext (wsV RX3 40 RX3 yX3_addDitchTo wsX3_addDitchTo) := goodIn_app (goodIn_of _ (by decide +kernel)) ggX3_carryOutNext_X3_addDitchTo
set_option maxRecDepth 20000 in
theorem ggX3_carryOutNext_X3_addUserTo : GoodIn wsX3_carryOutNext wsX3_addUserTo := goodIn_r _ [57, 1, 2, 14, 58, 59, 60, 18, 61, 62, 21, 22, 23, 6, 24, 8, 25, 26, 27, 28, 9, 29, 30, 31, 32, 3, 4, 5, 7, 33, 34, 35, 36, 37, 38, 39, 63, 64, 65, 66, 67, 68, 69, 70, 71, 72, 73, 74, 75, 76, 77, 78, 79, 80, 81, 82, 83, 84, 85, 86, 87, 111, 112, 113, 114, 115, 116, 117, 118, 119, 120, 121, 122, 123, 124, 125, 129, 130, 131, 132, 133, 134, 135, 136, 137, 138, 139, 140] (by decide +kernel) (by decide +kernel)
set_option maxRecDepth 20000 in
theorem gX3_carryOutNext_X3_addUserTo : GoodIn wsX3_carryOutNext (wsV RX3 43 RX3 yX3_addUserTo wsX3_addUserTo) := goodIn_app (goodIn_of _ (by decide +kernel)) ggX3_carryOutNext_X3_addUserTo
set_option maxRecDepth 20000 in
theorem ggX3_carryOutNext_X3_setTurnIn : GoodIn wsX3_carryOutNext wsX3_setTurnIn := goodIn_r _ [91, 1, 92, 2, 93, 94, 21, 22, 23, 6, 24, 8, 25, 26, 27, 28, 9, 29, 30, 31, 32, 3, 4, 5, 7, 33, 34, 35, 36, 37, 38, 39, 95, 96, 97, 18, 98, 62, 111, 112, 113, 114, 115, 116, 117, 118, 119, 120, 121, 122, 123, 124, 125, 129, 130, 131, 132, 133, 134, 135, 136, 137, 138, 139, 140] (by decide +kernel) (by decide +kernel)
set_option maxRecDepth 20000 in
theorem gX3_carryOutNext_X3_setTurnIn : GoodIn wsX3_carryOutNext (wsV RX3 46 RX3 yX3_setTurnIn wsX3_setTurnIn) := goodIn_app (goodIn_of _ (by decide +kernel)) ggX3_carryOutNext_X3_setTurnIn
set_option maxRecDepth 20000 in
theorem ggX3_carryOutNext_X3_setSupplyIn : GoodIn wsX3_carryOutNext wsX3_setSupplyIn := goodIn_r _ [102, 1, 2, 21, 22, 23, 6, 24, 8, 25, 26, 27, 28, 9, 29, 30, 31, 32, 3, 4, 5, 7, 33, 34, 35, 36, 37, 38, 39, 103, 104, 105, 18, 106, 107, 108, 109, 110, 111, 112, 113, 114, 115, 116, 117, 118, 119, 120, 121, 122, 123, 124, 125] (by decide +kernel) (by decide +kernel)
set_option maxRecDepth 20000 in
theorem gX3_carryOutNext_X3_setSupplyIn : GoodIn wsX3_carryOutNext (wsV RX3 49 RX3 yX3_setSupplyIn wsX3_setSupplyIn) := goodIn_app (goodIn_of _ (by decide +kernel)) ggX3_carryOutNext_X3_setSupplyIn
theorem dX3_carryOutNext_0 : decode cX3_carryOutNext 0 = .ok (.aload_n 0, 1) := by decide +kernel
theorem dX3_carryOutNext_1 : decode cX3_carryOutNext 1 = .ok (.invokevirtual 36, 3) := by decide +kernel
theorem dX3_carryOutNext_4 : decode cX3_carryOutNext 4 = .ok (.lookupswitch 76 #[(100, 44), (115, 68), (116, 60), (117, 52)], 44) := by decide +kernel
theorem dX3_carryOutNext_48 : decode cX3_carryOutNext 48 = .ok (.aload_n 0, 1) := by decide +kernel
theorem dX3_carryOutNext_49 : decode cX3_carryOutNext 49 = .ok (.aload_n 1, 1) := by decide +kernel
theorem dX3_carryOutNext_50 : decode cX3_carryOutNext 50 = .ok (.invokevirtual 40, 3) := by decide +kernel
theorem dX3_carryOutNext_53 : decode cX3_carryOutNext 53 = .ok (.goto 35, 3) := by decide +kernel
theorem dX3_carryOutNext_56 : decode cX3_carryOutNext 56 = .ok (.aload_n 0, 1) := by decide +kernel
theorem dX3_carryOutNext_57 : decode cX3_carryOutNext 57 = .ok (.aload_n 1, 1) := by decide +kernel
theorem dX3_carryOutNext_58 : decode cX3_carryOutNext 58 = .ok (.invokevirtual 43, 3) := by decide +kernel
theorem dX3_carryOutNext_61 : decode cX3_carryOutNext 61 = .ok (.goto 27, 3) := by decide +kernel
theorem dX3_carryOutNext_64 : decode cX3_carryOutNext 64 = .ok (.aload_n 0, 1) := by decide +kernel
theorem dX3_carryOutNext_65 : decode cX3_carryOutNext 65 = .ok (.aload_n 1, 1) := by decide +kernel
theorem dX3_carryOutNext_66 : decode cX3_carryOutNext 66 = .ok (.invokevirtual 46, 3) := by decide +kernel
theorem dX3_carryOutNext_69 : decode cX3_carryOutNext 69 = .ok (.goto 19, 3) := by decide +kernel
theorem dX3_carryOutNext_72 : decode cX3_carryOutNext 72 = .ok (.aload_n 0, 1) := by decide +kernel
theorem dX3_carryOutNext_73 : decode cX3_carryOutNext 73 = .ok (.aload_n 1, 1) := by decide +kernel
theorem dX3_carryOutNext_74 : decode cX3_carryOutNext 74 = .ok (.invokevirtual 49, 3) := by decide +kernel
theorem dX3_carryOutNext_77 : decode cX3_carryOutNext 77 = .ok (.goto 11, 3) := by decide +kernel
theorem dX3_carryOutNext_80 : decode cX3_carryOutNext 80 = .ok (.aload_n 0, 1) := by decide +kernel
theorem dX3_carryOutNext_81 : decode cX3_carryOutNext 81 = .ok (.aload_n 0, 1) := by decide +kernel
theorem dX3_carryOutNext_82 : decode cX3_carryOutNext 82 = .ok (.getfield 26, 3) := by decide +kernel
theorem dX3_carryOutNext_85 : decode cX3_carryOutNext 85 = .ok (.putfield 9, 3) := by decide +kernel
theorem dX3_carryOutNext_88 : decode cX3_carryOutNext 88 = .ok (.return_, 1) := by decide +kernel
set_option maxRecDepth 20000 in
theorem ggX3_addDitchTo_X2_hasRoomForDitch : GoodIn wsX3_addDitchTo wsX2_hasRoomForDitch := goodIn_r _ [8, 9, 55, 56, 57, 58, 59, 60, 61, 62, 63, 64] (by decide +kernel) (by decide +kernel)
set_option maxRecDepth 20000 in
theorem gX3_addDitchTo_X2_hasRoomForDitch : GoodIn wsX3_addDitchTo (wsV RX3 52 RX2 yX2_hasRoomForDitch wsX2_hasRoomForDitch) := goodIn_app (goodIn_of _ (by decide +kernel)) ggX3_addDitchTo_X2_hasRoomForDitch
set_option maxRecDepth 20000 in
theorem ggX3_addDitchTo_X3_number : GoodIn wsX3_addDitchTo wsX3_number := goodIn_r _ [14, 2, 1, 15, 16, 17, 18, 19, 20, 21, 22, 23, 13, 24, 25, 26, 27, 28, 29, 30, 31, 50, 51, 52, 53, 54] (by decide +kernel) (by decide +kernel)
set_option maxRecDepth 20000 in
theorem gX3_addDitchTo_X3_number : GoodIn wsX3_addDitchTo (wsV RX3 60 RX3 yX3_number wsX3_number) := goodIn_app (goodIn_of _ (by decide +kernel)) ggX3_addDitchTo_X3_number
set_option maxRecDepth 20000 in
theorem ggX3_addDitchTo_X3_pass : GoodIn wsX3_addDitchTo wsX3_pass := goodIn_r _ [35, 2, 1, 25, 26, 27, 13, 28, 15, 20, 50, 51, 52, 53, 54] (by decide +kernel) (by decide +kernel)
set_option maxRecDepth 20000 in
theorem gX3_addDitchTo_X3_pass : GoodIn wsX3_addDitchTo (wsV RX3 64 RX3 yX3_pass wsX3_pass) := goodIn_app (goodIn_of _ (by decide +kernel)) ggX3_addDitchTo_X3_pass
set_option maxRecDepth 20000 in
theorem ggX3_addDitchTo_X2_putDitch : GoodIn wsX3_addDitchTo wsX2_putDitch := goodIn_r _ [39, 40, 9, 41, 5, 6, 7, 8, 42, 43, 44, 45, 46, 47, 48, 49, 55, 56, 57, 58, 59, 60, 61, 62, 63, 64, 65, 66, 67] (by decide +kernel) (by decide +kernel)
set_option maxRecDepth 20000 in
theorem gX3_addDitchTo_X2_putDitch : GoodIn wsX3_addDitchTo (wsV RX3 68 RX2 yX2_putDitch wsX2_putDitch) := goodIn_app (goodIn_of _ (by decide +kernel)) ggX3_addDitchTo_X2_putDitch
theorem dX3_addDitchTo_0 : decode cX3_addDitchTo 0 = .ok (.aload_n 1, 1) := by decide +kernel
theorem dX3_addDitchTo_1 : decode cX3_addDitchTo 1 = .ok (.invokevirtual 52, 3) := by decide +kernel
theorem dX3_addDitchTo_4 : decode cX3_addDitchTo 4 = .ok (.ifCond .ne 11, 3) := by decide +kernel
theorem dX3_addDitchTo_7 : decode cX3_addDitchTo 7 = .ok (.aload_n 0, 1) := by decide +kernel
theorem dX3_addDitchTo_8 : decode cX3_addDitchTo 8 = .ok (.aload_n 0, 1) := by decide +kernel
theorem dX3_addDitchTo_9 : decode cX3_addDitchTo 9 = .ok (.getfield 26, 3) := by decide +kernel
theorem dX3_addDitchTo_12 : decode cX3_addDitchTo 12 = .ok (.putfield 9, 3) := by decide +kernel
theorem dX3_addDitchTo_15 : decode cX3_addDitchTo 15 = .ok (.aload_n 0, 1) := by decide +kernel
theorem dX3_addDitchTo_16 : decode cX3_addDitchTo 16 = .ok (.dup, 1) := by decide +kernel
theorem dX3_addDitchTo_17 : decode cX3_addDitchTo 17 = .ok (.getfield 26, 3) := by decide +kernel
theorem dX3_addDitchTo_20 : decode cX3_addDitchTo 20 = .ok (.iconst 1, 1) := by decide +kernel
theorem dX3_addDitchTo_21 : decode cX3_addDitchTo 21 = .ok (.iadd, 1) := by decide +kernel
theorem dX3_addDitchTo_22 : decode cX3_addDitchTo 22 = .ok (.putfield 26, 3) := by decide +kernel
theorem dX3_addDitchTo_25 : decode cX3_addDitchTo 25 = .ok (.aload_n 0, 1) := by decide +kernel
theorem dX3_addDitchTo_26 : decode cX3_addDitchTo 26 = .ok (.iconst 0, 1) := by decide +kernel
theorem dX3_addDitchTo_27 : decode cX3_addDitchTo 27 = .ok (.aload_n 1, 1) := by decide +kernel
theorem dX3_addDitchTo_28 : decode cX3_addDitchTo 28 = .ok (.getfield 57, 3) := by decide +kernel
theorem dX3_addDitchTo_31 : decode cX3_addDitchTo 31 = .ok (.iconst 1, 1) := by decide +kernel
theorem dX3_addDitchTo_32 : decode cX3_addDitchTo 32 = .ok (.isub, 1) := by decide +kernel
theorem dX3_addDitchTo_33 : decode cX3_addDitchTo 33 = .ok (.invokevirtual 60, 3) := by decide +kernel
theorem dX3_addDitchTo_36 : decode cX3_addDitchTo 36 = .ok (.istore_n 2, 1) := by decide +kernel
theorem dX3_addDitchTo_37 : decode cX3_addDitchTo 37 = .ok (.aload_n 0, 1) := by decide +kernel
theorem dX3_addDitchTo_38 : decode cX3_addDitchTo 38 = .ok (.bipush 46, 2) := by decide +kernel
theorem dX3_addDitchTo_40 : decode cX3_addDitchTo 40 = .ok (.invokevirtual 64, 3) := by decide +kernel
theorem dX3_addDitchTo_43 : decode cX3_addDitchTo 43 = .ok (.aload_n 0, 1) := by decide +kernel
theorem dX3_addDitchTo_44 : decode cX3_addDitchTo 44 = .ok (.iconst 1, 1) := by decide +kernel
theorem dX3_addDitchTo_45 : decode cX3_addDitchTo 45 = .ok (.sipush 200, 3) := by decide +kernel
theorem dX3_addDitchTo_48 : decode cX3_addDitchTo 48 = .ok (.invokevirtual 60, 3) := by decide +kernel
theorem dX3_addDitchTo_51 : decode cX3_addDitchTo 51 = .ok (.istore_n 3, 1) := by decide +kernel
theorem dX3_addDitchTo_52 : decode cX3_addDitchTo 52 = .ok (.aload_n 0, 1) := by decide +kernel
theorem dX3_addDitchTo_53 : decode cX3_addDitchTo 53 = .ok (.bipush 46, 2) := by decide +kernel
theorem dX3_addDitchTo_55 : decode cX3_addDitchTo 55 = .ok (.invokevirtual 64, 3) := by decide +kernel
theorem dX3_addDitchTo_58 : decode cX3_addDitchTo 58 = .ok (.aload_n 0, 1) := by decide +kernel
theorem dX3_addDitchTo_59 : decode cX3_addDitchTo 59 = .ok (.iconst 0, 1) := by decide +kernel
theorem dX3_addDitchTo_60 : decode cX3_addDitchTo 60 = .ok (.bipush 50, 2) := by decide +kernel
theorem dX3_addDitchTo_62 : decode cX3_addDitchTo 62 = .ok (.invokevirtual 60, 3) := by decide +kernel
theorem dX3_addDitchTo_65 : decode cX3_addDitchTo 65 = .ok (.istore 4, 2) := by decide +kernel
theorem dX3_addDitchTo_67 : decode cX3_addDitchTo 67 = .ok (.aload_n 0, 1) := by decide +kernel
theorem dX3_addDitchTo_68 : decode cX3_addDitchTo 68 = .ok (.bipush 59, 2) := by decide +kernel
theorem dX3_addDitchTo_70 : decode cX3_addDitchTo 70 = .ok (.invokevirtual 64, 3) := by decide +kernel
theorem dX3_addDitchTo_73 : decode cX3_addDitchTo 73 = .ok (.aload_n 0, 1) := by decide +kernel
theorem dX3_addDitchTo_74 : decode cX3_addDitchTo 74 = .ok (.getfield 9, 3) := by decide +kernel
theorem dX3_addDitchTo_77 : decode cX3_addDitchTo 77 = .ok (.bipush (-105), 2) := by decide +kernel
theorem dX3_addDitchTo_79 : decode cX3_addDitchTo 79 = .ok (.if_icmp .ne 11, 3) := by decide +kernel
theorem dX3_addDitchTo_82 : decode cX3_addDitchTo 82 = .ok (.aload_n 1, 1) := by decide +kernel
theorem dX3_addDitchTo_83 : decode cX3_addDitchTo 83 = .ok (.iload_n 2, 1) := by decide +kernel
theorem dX3_addDitchTo_84 : decode cX3_addDitchTo 84 = .ok (.iload_n 3, 1) := by decide +kernel
theorem dX3_addDitchTo_85 : decode cX3_addDitchTo 85 = .ok (.iload 4, 2) := by decide +kernel
theorem dX3_addDitchTo_87 : decode cX3_addDitchTo 87 = .ok (.invokevirtual 68, 3) := by decide +kernel
theorem dX3_addDitchTo_90 : decode cX3_addDitchTo 90 = .ok (.return_, 1) := by decide +kernel
set_option maxRecDepth 20000 in
theorem ggX3_addUserTo_X2_hasRoomForUser : GoodIn wsX3_addUserTo wsX2_hasRoomForUser := goodIn_r _ [8, 9, 66, 67, 68, 69, 70, 71, 72, 73, 74, 75] (by decide +kernel) (by decide +kernel)
set_option maxRecDepth 20000 in
theorem gX3_addUserTo_X2_hasRoomForUser : GoodIn wsX3_addUserTo (wsV RX3 72 RX2 yX2_hasRoomForUser wsX2_hasRoomForUser) := goodIn_app (goodIn_of _ (by decide +kernel)) ggX3_addUserTo_X2_hasRoomForUser
set_option maxRecDepth 20000 in
theorem ggX3_addUserTo_X3_number : GoodIn wsX3_addUserTo wsX3_number := goodIn_r _ [14, 2, 1, 15, 16, 17, 18, 19, 20, 21, 22, 23, 13, 24, 25, 26, 27, 28, 29, 30, 31, 61, 62, 63, 64, 65] (by decide +kernel) (by decide +kernel)
set_option maxRecDepth 20000 in
theorem gX3_addUserTo_X3_number : GoodIn wsX3_addUserTo (wsV RX3 60 RX3 yX3_number wsX3_number) := goodIn_app (goodIn_of _ (by decide +kernel)) ggX3_addUserTo_X3_number
set_option maxRecDepth 20000 in
theorem ggX3_addUserTo_X3_pass : GoodIn wsX3_addUserTo wsX3_pass := goodIn_r _ [35, 2, 1, 25, 26, 27, 13, 28, 15, 20, 61, 62, 63, 64, 65] (by decide +kernel) (by decide +kernel)
set_option maxRecDepth 20000 in
theorem gX3_addUserTo_X3_pass : GoodIn wsX3_addUserTo (wsV RX3 64 RX3 yX3_pass wsX3_pass) := goodIn_app (goodIn_of _ (by decide +kernel)) ggX3_addUserTo_X3_pass
set_option maxRecDepth 20000 in
theorem ggX3_addUserTo_X2_putUser : GoodIn wsX3_addUserTo wsX2_putUser := goodIn_r _ [39, 9, 40, 41, 42, 43, 5, 6, 7, 8, 44, 45, 46, 47, 48, 49, 50, 51, 52, 53, 54, 55, 56, 57, 58, 59, 60, 66, 67, 68, 69, 70, 71, 72, 73, 74, 75, 76, 77, 78, 79, 80, 81, 82, 83, 84, 85, 86, 87] (by decide +kernel) (by decide +kernel)
set_option maxRecDepth 20000 in
theorem gX3_addUserTo_X2_putUser : GoodIn wsX3_addUserTo (wsV RX3 75 RX2 yX2_putUser wsX2_putUser) := goodIn_app (goodIn_of _ (by decide +kernel)) ggX3_addUserTo_X2_putUser
theorem dX3_addUserTo_0 : decode cX3_addUserTo 0 = .ok (.aload_n 1, 1) := by decide +kernel
theorem dX3_addUserTo_1 : decode cX3_addUserTo 1 = .ok (.invokevirtual 72, 3) := by decide +kernel
theorem dX3_addUserTo_4 : decode cX3_addUserTo 4 = .ok (.ifCond .ne 11, 3) := by decide +kernel
theorem dX3_addUserTo_7 : decode cX3_addUserTo 7 = .ok (.aload_n 0, 1) := by decide +kernel
theorem dX3_addUserTo_8 : decode cX3_addUserTo 8 = .ok (.aload_n 0, 1) := by decide +kernel
theorem dX3_addUserTo_9 : decode cX3_addUserTo 9 = .ok (.getfield 26, 3) := by decide +kernel
theorem dX3_addUserTo_12 : decode cX3_addUserTo 12 = .ok (.putfield 9, 3) := by decide +kernel
theorem dX3_addUserTo_15 : decode cX3_addUserTo 15 = .ok (.aload_n 0, 1) := by decide +kernel
theorem dX3_addUserTo_16 : decode cX3_addUserTo 16 = .ok (.dup, 1) := by decide +kernel
theorem dX3_addUserTo_17 : decode cX3_addUserTo 17 = .ok (.getfield 26, 3) := by decide +kernel
theorem dX3_addUserTo_20 : decode cX3_addUserTo 20 = .ok (.iconst 1, 1) := by decide +kernel
theorem dX3_addUserTo_21 : decode cX3_addUserTo 21 = .ok (.iadd, 1) := by decide +kernel
theorem dX3_addUserTo_22 : decode cX3_addUserTo 22 = .ok (.putfield 26, 3) := by decide +kernel
theorem dX3_addUserTo_25 : decode cX3_addUserTo 25 = .ok (.aload_n 0, 1) := by decide +kernel
theorem dX3_addUserTo_26 : decode cX3_addUserTo 26 = .ok (.iconst 0, 1) := by decide +kernel
theorem dX3_addUserTo_27 : decode cX3_addUserTo 27 = .ok (.aload_n 1, 1) := by decide +kernel
theorem dX3_addUserTo_28 : decode cX3_addUserTo 28 = .ok (.getfield 57, 3) := by decide +kernel
theorem dX3_addUserTo_31 : decode cX3_addUserTo 31 = .ok (.iconst 1, 1) := by decide +kernel
theorem dX3_addUserTo_32 : decode cX3_addUserTo 32 = .ok (.isub, 1) := by decide +kernel
theorem dX3_addUserTo_33 : decode cX3_addUserTo 33 = .ok (.invokevirtual 60, 3) := by decide +kernel
theorem dX3_addUserTo_36 : decode cX3_addUserTo 36 = .ok (.istore_n 2, 1) := by decide +kernel
theorem dX3_addUserTo_37 : decode cX3_addUserTo 37 = .ok (.aload_n 0, 1) := by decide +kernel
theorem dX3_addUserTo_38 : decode cX3_addUserTo 38 = .ok (.bipush 46, 2) := by decide +kernel
theorem dX3_addUserTo_40 : decode cX3_addUserTo 40 = .ok (.invokevirtual 64, 3) := by decide +kernel
theorem dX3_addUserTo_43 : decode cX3_addUserTo 43 = .ok (.aload_n 0, 1) := by decide +kernel
theorem dX3_addUserTo_44 : decode cX3_addUserTo 44 = .ok (.sipush 1800, 3) := by decide +kernel
theorem dX3_addUserTo_47 : decode cX3_addUserTo 47 = .ok (.sipush 2099, 3) := by decide +kernel
theorem dX3_addUserTo_50 : decode cX3_addUserTo 50 = .ok (.invokevirtual 60, 3) := by decide +kernel
theorem dX3_addUserTo_53 : decode cX3_addUserTo 53 = .ok (.istore_n 3, 1) := by decide +kernel
theorem dX3_addUserTo_54 : decode cX3_addUserTo 54 = .ok (.aload_n 0, 1) := by decide +kernel
theorem dX3_addUserTo_55 : decode cX3_addUserTo 55 = .ok (.bipush 46, 2) := by decide +kernel
theorem dX3_addUserTo_57 : decode cX3_addUserTo 57 = .ok (.invokevirtual 64, 3) := by decide +kernel
theorem dX3_addUserTo_60 : decode cX3_addUserTo 60 = .ok (.aload_n 0, 1) := by decide +kernel
theorem dX3_addUserTo_61 : decode cX3_addUserTo 61 = .ok (.iconst 0, 1) := by decide +kernel
theorem dX3_addUserTo_62 : decode cX3_addUserTo 62 = .ok (.bipush 60, 2) := by decide +kernel
theorem dX3_addUserTo_64 : decode cX3_addUserTo 64 = .ok (.invokevirtual 60, 3) := by decide +kernel
theorem dX3_addUserTo_67 : decode cX3_addUserTo 67 = .ok (.istore 4, 2) := by decide +kernel
theorem dX3_addUserTo_69 : decode cX3_addUserTo 69 = .ok (.aload_n 0, 1) := by decide +kernel
theorem dX3_addUserTo_70 : decode cX3_addUserTo 70 = .ok (.bipush 59, 2) := by decide +kernel
theorem dX3_addUserTo_72 : decode cX3_addUserTo 72 = .ok (.invokevirtual 64, 3) := by decide +kernel
theorem dX3_addUserTo_75 : decode cX3_addUserTo 75 = .ok (.aload_n 0, 1) := by decide +kernel
theorem dX3_addUserTo_76 : decode cX3_addUserTo 76 = .ok (.getfield 9, 3) := by decide +kernel
theorem dX3_addUserTo_79 : decode cX3_addUserTo 79 = .ok (.bipush (-105), 2) := by decide +kernel
theorem dX3_addUserTo_81 : decode cX3_addUserTo 81 = .ok (.if_icmp .ne 11, 3) := by decide +kernel
theorem dX3_addUserTo_84 : decode cX3_addUserTo 84 = .ok (.aload_n 1, 1) := by decide +kernel
theorem dX3_addUserTo_85 : decode cX3_addUserTo 85 = .ok (.iload_n 2, 1) := by decide +kernel
theorem dX3_addUserTo_86 : decode cX3_addUserTo 86 = .ok (.iload_n 3, 1) := by decide +kernel
theorem dX3_addUserTo_87 : decode cX3_addUserTo 87 = .ok (.iload 4, 2) := by decide +kernel
theorem dX3_addUserTo_89 : decode cX3_addUserTo 89 = .ok (.invokevirtual 75, 3) := by decide +kernel
theorem dX3_addUserTo_92 : decode cX3_addUserTo 92 = .ok (.return_, 1) := by decide +kernel
set_option maxRecDepth 20000 in
theorem ggX3_setTurnIn_X3_number : GoodIn wsX3_setTurnIn wsX3_number := goodIn_r _ [10, 3, 1, 11, 12, 13, 14, 15, 16, 17, 18, 19, 9, 20, 21, 22, 23, 24, 25, 26, 27, 38, 39, 40, 41, 42] (by decide +kernel) (by decide +kernel)
set_option maxRecDepth 20000 in
theorem gX3_setTurnIn_X3_number : GoodIn wsX3_setTurnIn (wsV RX3 60 RX3 yX3_number wsX3_number) := goodIn_app (goodIn_of _ (by decide +kernel)) ggX3_setTurnIn_X3_number
set_option maxRecDepth 20000 in
theorem ggX3_setTurnIn_X3_pass : GoodIn wsX3_setTurnIn wsX3_pass := goodIn_r _ [31, 3, 1, 21, 22, 23, 9, 24, 11, 16, 38, 39, 40, 41, 42] (by decide +kernel) (by decide +kernel)
set_option maxRecDepth 20000 in
theorem gX3_setTurnIn_X3_pass : GoodIn wsX3_setTurnIn (wsV RX3 64 RX3 yX3_pass wsX3_pass) := goodIn_app (goodIn_of _ (by decide +kernel)) ggX3_setTurnIn_X3_pass
set_option maxRecDepth 20000 in
theorem ggX3_setTurnIn_X2_hasUser : GoodIn wsX3_setTurnIn wsX2_hasUser := goodIn_r _ [36, 37, 43, 44, 45, 46, 47, 48, 49, 50, 51, 52] (by decide +kernel) (by decide +kernel)
set_option maxRecDepth 20000 in
theorem gX3_setTurnIn_X2_hasUser : GoodIn wsX3_setTurnIn (wsV RX3 81 RX2 yX2_hasUser wsX2_hasUser) := goodIn_app (goodIn_of _ (by decide +kernel)) ggX3_setTurnIn_X2_hasUser
theorem dX3_setTurnIn_0 : decode cX3_setTurnIn 0 = .ok (.aload_n 0, 1) := by decide +kernel
theorem dX3_setTurnIn_1 : decode cX3_setTurnIn 1 = .ok (.dup, 1) := by decide +kernel
theorem dX3_setTurnIn_2 : decode cX3_setTurnIn 2 = .ok (.getfield 26, 3) := by decide +kernel
theorem dX3_setTurnIn_5 : decode cX3_setTurnIn 5 = .ok (.iconst 1, 1) := by decide +kernel
theorem dX3_setTurnIn_6 : decode cX3_setTurnIn 6 = .ok (.iadd, 1) := by decide +kernel
theorem dX3_setTurnIn_7 : decode cX3_setTurnIn 7 = .ok (.putfield 26, 3) := by decide +kernel
theorem dX3_setTurnIn_10 : decode cX3_setTurnIn 10 = .ok (.aload_n 0, 1) := by decide +kernel
theorem dX3_setTurnIn_11 : decode cX3_setTurnIn 11 = .ok (.iconst 0, 1) := by decide +kernel
theorem dX3_setTurnIn_12 : decode cX3_setTurnIn 12 = .ok (.aload_n 1, 1) := by decide +kernel
theorem dX3_setTurnIn_13 : decode cX3_setTurnIn 13 = .ok (.getfield 78, 3) := by decide +kernel
theorem dX3_setTurnIn_16 : decode cX3_setTurnIn 16 = .ok (.iconst 1, 1) := by decide +kernel
theorem dX3_setTurnIn_17 : decode cX3_setTurnIn 17 = .ok (.isub, 1) := by decide +kernel
theorem dX3_setTurnIn_18 : decode cX3_setTurnIn 18 = .ok (.invokevirtual 60, 3) := by decide +kernel
theorem dX3_setTurnIn_21 : decode cX3_setTurnIn 21 = .ok (.istore_n 2, 1) := by decide +kernel
theorem dX3_setTurnIn_22 : decode cX3_setTurnIn 22 = .ok (.aload_n 0, 1) := by decide +kernel
theorem dX3_setTurnIn_23 : decode cX3_setTurnIn 23 = .ok (.bipush 46, 2) := by decide +kernel
theorem dX3_setTurnIn_25 : decode cX3_setTurnIn 25 = .ok (.invokevirtual 64, 3) := by decide +kernel
theorem dX3_setTurnIn_28 : decode cX3_setTurnIn 28 = .ok (.aload_n 0, 1) := by decide +kernel
theorem dX3_setTurnIn_29 : decode cX3_setTurnIn 29 = .ok (.iconst 0, 1) := by decide +kernel
theorem dX3_setTurnIn_30 : decode cX3_setTurnIn 30 = .ok (.bipush 24, 2) := by decide +kernel
theorem dX3_setTurnIn_32 : decode cX3_setTurnIn 32 = .ok (.invokevirtual 60, 3) := by decide +kernel
theorem dX3_setTurnIn_35 : decode cX3_setTurnIn 35 = .ok (.istore_n 3, 1) := by decide +kernel
theorem dX3_setTurnIn_36 : decode cX3_setTurnIn 36 = .ok (.aload_n 0, 1) := by decide +kernel
theorem dX3_setTurnIn_37 : decode cX3_setTurnIn 37 = .ok (.bipush 59, 2) := by decide +kernel
theorem dX3_setTurnIn_39 : decode cX3_setTurnIn 39 = .ok (.invokevirtual 64, 3) := by decide +kernel
theorem dX3_setTurnIn_42 : decode cX3_setTurnIn 42 = .ok (.aload_n 0, 1) := by decide +kernel
theorem dX3_setTurnIn_43 : decode cX3_setTurnIn 43 = .ok (.getfield 9, 3) := by decide +kernel
theorem dX3_setTurnIn_46 : decode cX3_setTurnIn 46 = .ok (.bipush (-105), 2) := by decide +kernel
theorem dX3_setTurnIn_48 : decode cX3_setTurnIn 48 = .ok (.if_icmp .ne 21, 3) := by decide +kernel
theorem dX3_setTurnIn_51 : decode cX3_setTurnIn 51 = .ok (.aload_n 1, 1) := by decide +kernel
theorem dX3_setTurnIn_52 : decode cX3_setTurnIn 52 = .ok (.iload_n 2, 1) := by decide +kernel
theorem dX3_setTurnIn_53 : decode cX3_setTurnIn 53 = .ok (.invokevirtual 81, 3) := by decide +kernel
theorem dX3_setTurnIn_56 : decode cX3_setTurnIn 56 = .ok (.ifCond .eq 13, 3) := by decide +kernel
theorem dX3_setTurnIn_59 : decode cX3_setTurnIn 59 = .ok (.aload_n 1, 1) := by decide +kernel
theorem dX3_setTurnIn_60 : decode cX3_setTurnIn 60 = .ok (.getfield 85, 3) := by decide +kernel
theorem dX3_setTurnIn_63 : decode cX3_setTurnIn 63 = .ok (.iload_n 2, 1) := by decide +kernel
theorem dX3_setTurnIn_64 : decode cX3_setTurnIn 64 = .ok (.aaload, 1) := by decide +kernel
theorem dX3_setTurnIn_65 : decode cX3_setTurnIn 65 = .ok (.iload_n 3, 1) := by decide +kernel
theorem dX3_setTurnIn_66 : decode cX3_setTurnIn 66 = .ok (.putfield 89, 3) := by decide +kernel
theorem dX3_setTurnIn_69 : decode cX3_setTurnIn 69 = .ok (.return_, 1) := by decide +kernel
set_option maxRecDepth 20000 in
theorem ggX3_setSupplyIn_X3_number : GoodIn wsX3_setSupplyIn wsX3_number := goodIn_r _ [7, 2, 1, 8, 9, 10, 11, 12, 13, 14, 15, 16, 6, 17, 18, 19, 20, 21, 22, 23, 24, 38, 39, 40, 41, 42] (by decide +kernel) (by decide +kernel)
set_option maxRecDepth 20000 in
theorem gX3_setSupplyIn_X3_number : GoodIn wsX3_setSupplyIn (wsV RX3 60 RX3 yX3_number wsX3_number) := goodIn_app (goodIn_of _ (by decide +kernel)) ggX3_setSupplyIn_X3_number
set_option maxRecDepth 20000 in
theorem ggX3_setSupplyIn_X3_pass : GoodIn wsX3_setSupplyIn wsX3_pass := goodIn_r _ [28, 2, 1, 18, 19, 20, 6, 21, 8, 13, 38, 39, 40, 41, 42] (by decide +kernel) (by decide +kernel)
set_option maxRecDepth 20000 in
theorem gX3_setSupplyIn_X3_pass : GoodIn wsX3_setSupplyIn (wsV RX3 64 RX3 yX3_pass wsX3_pass) := goodIn_app (goodIn_of _ (by decide +kernel)) ggX3_setSupplyIn_X3_pass
set_option maxRecDepth 20000 in
theorem ggX3_setSupplyIn_X2_putSupply : GoodIn wsX3_setSupplyIn wsX2_putSupply := goodIn_r _ [33, 34, 35, 11, 36, 37, 43, 44, 45, 46, 47, 48, 49, 50, 51, 52] (by decide +kernel) (by decide +kernel)
set_option maxRecDepth 20000 in
theorem gX3_setSupplyIn_X2_putSupply : GoodIn wsX3_setSupplyIn (wsV RX3 94 RX2 yX2_putSupply wsX2_putSupply) := goodIn_app (goodIn_of _ (by decide +kernel)) ggX3_setSupplyIn_X2_putSupply
theorem dX3_setSupplyIn_0 : decode cX3_setSupplyIn 0 = .ok (.aload_n 0, 1) := by decide +kernel
theorem dX3_setSupplyIn_1 : decode cX3_setSupplyIn 1 = .ok (.dup, 1) := by decide +kernel
theorem dX3_setSupplyIn_2 : decode cX3_setSupplyIn 2 = .ok (.getfield 26, 3) := by decide +kernel
theorem dX3_setSupplyIn_5 : decode cX3_setSupplyIn 5 = .ok (.iconst 1, 1) := by decide +kernel
theorem dX3_setSupplyIn_6 : decode cX3_setSupplyIn 6 = .ok (.iadd, 1) := by decide +kernel
theorem dX3_setSupplyIn_7 : decode cX3_setSupplyIn 7 = .ok (.putfield 26, 3) := by decide +kernel
theorem dX3_setSupplyIn_10 : decode cX3_setSupplyIn 10 = .ok (.aload_n 0, 1) := by decide +kernel
theorem dX3_setSupplyIn_11 : decode cX3_setSupplyIn 11 = .ok (.iconst 0, 1) := by decide +kernel
theorem dX3_setSupplyIn_12 : decode cX3_setSupplyIn 12 = .ok (.bipush 23, 2) := by decide +kernel
theorem dX3_setSupplyIn_14 : decode cX3_setSupplyIn 14 = .ok (.invokevirtual 60, 3) := by decide +kernel
theorem dX3_setSupplyIn_17 : decode cX3_setSupplyIn 17 = .ok (.istore_n 2, 1) := by decide +kernel
theorem dX3_setSupplyIn_18 : decode cX3_setSupplyIn 18 = .ok (.aload_n 0, 1) := by decide +kernel
theorem dX3_setSupplyIn_19 : decode cX3_setSupplyIn 19 = .ok (.bipush 45, 2) := by decide +kernel
theorem dX3_setSupplyIn_21 : decode cX3_setSupplyIn 21 = .ok (.invokevirtual 64, 3) := by decide +kernel
theorem dX3_setSupplyIn_24 : decode cX3_setSupplyIn 24 = .ok (.aload_n 0, 1) := by decide +kernel
theorem dX3_setSupplyIn_25 : decode cX3_setSupplyIn 25 = .ok (.iload_n 2, 1) := by decide +kernel
theorem dX3_setSupplyIn_26 : decode cX3_setSupplyIn 26 = .ok (.iconst 1, 1) := by decide +kernel
theorem dX3_setSupplyIn_27 : decode cX3_setSupplyIn 27 = .ok (.iadd, 1) := by decide +kernel
theorem dX3_setSupplyIn_28 : decode cX3_setSupplyIn 28 = .ok (.bipush 24, 2) := by decide +kernel
theorem dX3_setSupplyIn_30 : decode cX3_setSupplyIn 30 = .ok (.invokevirtual 60, 3) := by decide +kernel
theorem dX3_setSupplyIn_33 : decode cX3_setSupplyIn 33 = .ok (.istore_n 3, 1) := by decide +kernel
theorem dX3_setSupplyIn_34 : decode cX3_setSupplyIn 34 = .ok (.aload_n 0, 1) := by decide +kernel
theorem dX3_setSupplyIn_35 : decode cX3_setSupplyIn 35 = .ok (.bipush 46, 2) := by decide +kernel
theorem dX3_setSupplyIn_37 : decode cX3_setSupplyIn 37 = .ok (.invokevirtual 64, 3) := by decide +kernel
theorem dX3_setSupplyIn_40 : decode cX3_setSupplyIn 40 = .ok (.aload_n 0, 1) := by decide +kernel
theorem dX3_setSupplyIn_41 : decode cX3_setSupplyIn 41 = .ok (.iconst 0, 1) := by decide +kernel
theorem dX3_setSupplyIn_42 : decode cX3_setSupplyIn 42 = .ok (.sipush 200, 3) := by decide +kernel
theorem dX3_setSupplyIn_45 : decode cX3_setSupplyIn 45 = .ok (.invokevirtual 60, 3) := by decide +kernel
theorem dX3_setSupplyIn_48 : decode cX3_setSupplyIn 48 = .ok (.istore 4, 2) := by decide +kernel
theorem dX3_setSupplyIn_50 : decode cX3_setSupplyIn 50 = .ok (.aload_n 0, 1) := by decide +kernel
theorem dX3_setSupplyIn_51 : decode cX3_setSupplyIn 51 = .ok (.bipush 59, 2) := by decide +kernel
theorem dX3_setSupplyIn_53 : decode cX3_setSupplyIn 53 = .ok (.invokevirtual 64, 3) := by decide +kernel
theorem dX3_setSupplyIn_56 : decode cX3_setSupplyIn 56 = .ok (.aload_n 0, 1) := by decide +kernel
theorem dX3_setSupplyIn_57 : decode cX3_setSupplyIn 57 = .ok (.getfield 9, 3) := by decide +kernel
theorem dX3_setSupplyIn_60 : decode cX3_setSupplyIn 60 = .ok (.bipush (-105), 2) := by decide +kernel
theorem dX3_setSupplyIn_62 : decode cX3_setSupplyIn 62 = .ok (.if_icmp .ne 11, 3) := by decide +kernel
theorem dX3_setSupplyIn_65 : decode cX3_setSupplyIn 65 = .ok (.aload_n 1, 1) := by decide +kernel
theorem dX3_setSupplyIn_66 : decode cX3_setSupplyIn 66 = .ok (.iload_n 2, 1) := by decide +kernel
theorem dX3_setSupplyIn_67 : decode cX3_setSupplyIn 67 = .ok (.iload_n 3, 1) := by decide +kernel
theorem dX3_setSupplyIn_68 : decode cX3_setSupplyIn 68 = .ok (.iload 4, 2) := by decide +kernel
theorem dX3_setSupplyIn_70 : decode cX3_setSupplyIn 70 = .ok (.invokevirtual 94, 3) := by decide +kernel
theorem dX3_setSupplyIn_73 : decode cX3_setSupplyIn 73 = .ok (.return_, 1) := by decide +kernel
theorem dX3_letterHere_0 : decode cX3_letterHere 0 = .ok (.aload_n 0, 1) := by decide +kernel
theorem dX3_letterHere_1 : decode cX3_letterHere 1 = .ok (.getfield 26, 3) := by decide +kernel
theorem dX3_letterHere_4 : decode cX3_letterHere 4 = .ok (.aload_n 0, 1) := by decide +kernel
theorem dX3_letterHere_5 : decode cX3_letterHere 5 = .ok (.getfield 19, 3) := by decide +kernel
theorem dX3_letterHere_8 : decode cX3_letterHere 8 = .ok (.if_icmp .ge 15, 3) := by decide +kernel
theorem dX3_letterHere_11 : decode cX3_letterHere 11 = .ok (.aload_n 0, 1) := by decide +kernel
theorem dX3_letterHere_12 : decode cX3_letterHere 12 = .ok (.getfield 15, 3) := by decide +kernel
theorem dX3_letterHere_15 : decode cX3_letterHere 15 = .ok (.aload_n 0, 1) := by decide +kernel
theorem dX3_letterHere_16 : decode cX3_letterHere 16 = .ok (.getfield 26, 3) := by decide +kernel
theorem dX3_letterHere_19 : decode cX3_letterHere 19 = .ok (.caload, 1) := by decide +kernel
theorem dX3_letterHere_20 : decode cX3_letterHere 20 = .ok (.goto 4, 3) := by decide +kernel
theorem dX3_letterHere_23 : decode cX3_letterHere 23 = .ok (.iconst 0, 1) := by decide +kernel
theorem dX3_letterHere_24 : decode cX3_letterHere 24 = .ok (.ireturn, 1) := by decide +kernel
set_option maxRecDepth 20000 in
theorem ggX3_isDigitHere_X3_letterHere : GoodIn wsX3_isDigitHere wsX3_letterHere := goodIn_r _ [5, 6, 7, 8, 9, 10, 11, 12, 13] (by decide +kernel) (by decide +kernel)
set_option maxRecDepth 20000 in
theorem gX3_isDigitHere_X3_letterHere : GoodIn wsX3_isDigitHere (wsV RX3 36 RX3 yX3_letterHere wsX3_letterHere) := goodIn_app (goodIn_of _ (by decide +kernel)) ggX3_isDigitHere_X3_letterHere
theorem dX3_isDigitHere_0 : decode cX3_isDigitHere 0 = .ok (.aload_n 0, 1) := by decide +kernel
theorem dX3_isDigitHere_1 : decode cX3_isDigitHere 1 = .ok (.invokevirtual 36, 3) := by decide +kernel
theorem dX3_isDigitHere_4 : decode cX3_isDigitHere 4 = .ok (.bipush 48, 2) := by decide +kernel
theorem dX3_isDigitHere_6 : decode cX3_isDigitHere 6 = .ok (.if_icmp .lt 16, 3) := by decide +kernel
theorem dX3_isDigitHere_9 : decode cX3_isDigitHere 9 = .ok (.aload_n 0, 1) := by decide +kernel
theorem dX3_isDigitHere_10 : decode cX3_isDigitHere 10 = .ok (.invokevirtual 36, 3) := by decide +kernel
theorem dX3_isDigitHere_13 : decode cX3_isDigitHere 13 = .ok (.bipush 57, 2) := by decide +kernel
theorem dX3_isDigitHere_15 : decode cX3_isDigitHere 15 = .ok (.if_icmp .gt 7, 3) := by decide +kernel
