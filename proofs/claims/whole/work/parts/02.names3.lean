theorem dX5_withUser_60 : decode cX5_withUser 60 = .ok (.getfield 113, 3) := by decide +kernel
theorem dX5_withUser_63 : decode cX5_withUser 63 = .ok (.i2l, 1) := by decide +kernel
theorem dX5_withUser_64 : decode cX5_withUser 64 = .ok (.ladd, 1) := by decide +kernel
theorem dX5_withUser_65 : decode cX5_withUser 65 = .ok (.lstore 5, 2) := by decide +kernel
theorem dX5_withUser_67 : decode cX5_withUser 67 = .ok (.ldc2_w 228, 3) := by decide +kernel
theorem dX5_withUser_70 : decode cX5_withUser 70 = .ok (.lload 5, 2) := by decide +kernel
theorem dX5_withUser_72 : decode cX5_withUser 72 = .ok (.lmul, 1) := by decide +kernel
theorem dX5_withUser_73 : decode cX5_withUser 73 = .ok (.aload 4, 2) := by decide +kernel
theorem dX5_withUser_75 : decode cX5_withUser 75 = .ok (.getfield 188, 3) := by decide +kernel
theorem dX5_withUser_78 : decode cX5_withUser 78 = .ok (.i2l, 1) := by decide +kernel
theorem dX5_withUser_79 : decode cX5_withUser 79 = .ok (.ladd, 1) := by decide +kernel
theorem dX5_withUser_80 : decode cX5_withUser 80 = .ok (.lstore 5, 2) := by decide +kernel
theorem dX5_withUser_82 : decode cX5_withUser 82 = .ok (.ldc2_w 228, 3) := by decide +kernel
theorem dX5_withUser_85 : decode cX5_withUser 85 = .ok (.lload 5, 2) := by decide +kernel
theorem dX5_withUser_87 : decode cX5_withUser 87 = .ok (.lmul, 1) := by decide +kernel
theorem dX5_withUser_88 : decode cX5_withUser 88 = .ok (.aload 4, 2) := by decide +kernel
theorem dX5_withUser_90 : decode cX5_withUser 90 = .ok (.getfield 203, 3) := by decide +kernel
theorem dX5_withUser_93 : decode cX5_withUser 93 = .ok (.ifCond .eq 7, 3) := by decide +kernel
theorem dX5_withUser_96 : decode cX5_withUser 96 = .ok (.iconst 1, 1) := by decide +kernel
theorem dX5_withUser_97 : decode cX5_withUser 97 = .ok (.goto 4, 3) := by decide +kernel
theorem dX5_withUser_100 : decode cX5_withUser 100 = .ok (.iconst 0, 1) := by decide +kernel
theorem dX5_withUser_101 : decode cX5_withUser 101 = .ok (.i2l, 1) := by decide +kernel
theorem dX5_withUser_102 : decode cX5_withUser 102 = .ok (.ladd, 1) := by decide +kernel
theorem dX5_withUser_103 : decode cX5_withUser 103 = .ok (.lreturn, 1) := by decide +kernel
set_option maxRecDepth 20000 in
theorem ggX5_unitsGotInTrial_X1_distribute : GoodIn wsX5_unitsGotInTrial wsX1_distribute := goodIn_r _ [9, 10, 11, 12, 13, 14, 15, 16, 17, 18, 19, 20, 21, 22, 23, 24, 25, 26, 27, 28, 29, 30, 31, 32, 33, 34, 35, 36, 37, 38, 39, 40, 41, 42, 43, 44, 45, 46, 47, 48, 49, 50, 51, 52, 53, 54, 55, 56, 57, 58, 59, 60, 61, 62, 63, 64, 65, 8, 66, 67, 68, 69, 70, 71, 72, 73, 74, 75, 76, 77, 78, 79, 80, 81, 82, 83, 84, 85, 86, 87, 88, 89, 90, 91, 92, 93, 94, 95, 96, 97, 98, 99, 100, 101, 102, 103, 104, 105, 106, 107, 108, 109, 110, 134, 135, 136, 137, 138, 139, 121, 122, 123, 124, 125, 126, 127, 128, 129, 130, 140, 141, 142, 143, 144, 145, 146, 147, 148, 149, 150, 151, 131, 132, 133] (by decide +kernel) (by decide +kernel)
set_option maxRecDepth 20000 in
theorem gX5_unitsGotInTrial_X1_distribute : GoodIn wsX5_unitsGotInTrial (wsV RX5 151 RX1 yX1_distribute wsX1_distribute) := goodIn_app (goodIn_of _ (by decide +kernel)) ggX5_unitsGotInTrial_X1_distribute
set_option maxRecDepth 20000 in
theorem ggX5_unitsGotInTrial_X1_unitsGot : GoodIn wsX5_unitsGotInTrial wsX1_unitsGot := goodIn_r _ [114, 11, 13, 121, 122, 123, 124, 125, 126, 127, 128, 129, 130, 134, 135, 136, 137, 138, 139] (by decide +kernel) (by decide +kernel)
set_option maxRecDepth 20000 in
theorem gX5_unitsGotInTrial_X1_unitsGot : GoodIn wsX5_unitsGotInTrial (wsV RX5 237 RX1 yX1_unitsGot wsX1_unitsGot) := goodIn_app (goodIn_of _ (by decide +kernel)) ggX5_unitsGotInTrial_X1_unitsGot
theorem dX5_unitsGotInTrial_0 : decode cX5_unitsGotInTrial 0 = .ok (.aload_n 0, 1) := by decide +kernel
theorem dX5_unitsGotInTrial_1 : decode cX5_unitsGotInTrial 1 = .ok (.getfield 16, 3) := by decide +kernel
theorem dX5_unitsGotInTrial_4 : decode cX5_unitsGotInTrial 4 = .ok (.getfield 61, 3) := by decide +kernel
theorem dX5_unitsGotInTrial_7 : decode cX5_unitsGotInTrial 7 = .ok (.iload_n 1, 1) := by decide +kernel
theorem dX5_unitsGotInTrial_8 : decode cX5_unitsGotInTrial 8 = .ok (.aaload, 1) := by decide +kernel
theorem dX5_unitsGotInTrial_9 : decode cX5_unitsGotInTrial 9 = .ok (.iload_n 2, 1) := by decide +kernel
theorem dX5_unitsGotInTrial_10 : decode cX5_unitsGotInTrial 10 = .ok (.putfield 65, 3) := by decide +kernel
theorem dX5_unitsGotInTrial_13 : decode cX5_unitsGotInTrial 13 = .ok (.aload_n 0, 1) := by decide +kernel
theorem dX5_unitsGotInTrial_14 : decode cX5_unitsGotInTrial 14 = .ok (.getfield 30, 3) := by decide +kernel
theorem dX5_unitsGotInTrial_17 : decode cX5_unitsGotInTrial 17 = .ok (.aload_n 0, 1) := by decide +kernel
theorem dX5_unitsGotInTrial_18 : decode cX5_unitsGotInTrial 18 = .ok (.getfield 16, 3) := by decide +kernel
theorem dX5_unitsGotInTrial_21 : decode cX5_unitsGotInTrial 21 = .ok (.invokevirtual 151, 3) := by decide +kernel
theorem dX5_unitsGotInTrial_24 : decode cX5_unitsGotInTrial 24 = .ok (.aload_n 0, 1) := by decide +kernel
theorem dX5_unitsGotInTrial_25 : decode cX5_unitsGotInTrial 25 = .ok (.getfield 30, 3) := by decide +kernel
theorem dX5_unitsGotInTrial_28 : decode cX5_unitsGotInTrial 28 = .ok (.aload_n 0, 1) := by decide +kernel
theorem dX5_unitsGotInTrial_29 : decode cX5_unitsGotInTrial 29 = .ok (.getfield 16, 3) := by decide +kernel
theorem dX5_unitsGotInTrial_32 : decode cX5_unitsGotInTrial 32 = .ok (.invokevirtual 237, 3) := by decide +kernel
theorem dX5_unitsGotInTrial_35 : decode cX5_unitsGotInTrial 35 = .ok (.ireturn, 1) := by decide +kernel
set_option maxRecDepth 20000 in
theorem ggX5_gainOf_X1_distribute : GoodIn wsX5_gainOf wsX1_distribute := goodIn_r _ [11, 12, 13, 14, 15, 16, 17, 18, 19, 20, 21, 22, 23, 24, 25, 26, 27, 28, 29, 30, 31, 32, 33, 34, 35, 36, 37, 38, 39, 40, 41, 42, 43, 44, 45, 46, 47, 48, 49, 50, 51, 52, 53, 54, 55, 56, 57, 58, 59, 60, 61, 62, 63, 64, 65, 66, 67, 10, 68, 69, 70, 71, 72, 73, 74, 75, 76, 77, 78, 79, 80, 81, 82, 83, 84, 85, 86, 87, 88, 89, 90, 91, 92, 93, 94, 95, 96, 97, 98, 99, 100, 101, 102, 103, 104, 105, 106, 107, 108, 109, 110, 111, 112, 152, 153, 154, 155, 156, 157, 158, 159, 160, 161, 162, 163, 164, 165, 166, 167, 168, 169, 170, 171, 172, 173, 174, 175, 176, 177, 178, 179, 180, 181, 182] (by decide +kernel) (by decide +kernel)
set_option maxRecDepth 20000 in
theorem gX5_gainOf_X1_distribute : GoodIn wsX5_gainOf (wsV RX5 151 RX1 yX1_distribute wsX1_distribute) := goodIn_app (goodIn_of _ (by decide +kernel)) ggX5_gainOf_X1_distribute
set_option maxRecDepth 20000 in
theorem ggX5_gainOf_X2_copyFrom : GoodIn wsX5_gainOf wsX2_copyFrom := goodIn_r _ [116, 117, 118, 119, 120, 121, 37, 38, 122, 23, 123, 40, 124, 28, 125, 126, 127, 87, 128, 129, 130, 89, 131, 132, 133, 54, 134, 135, 136, 137, 58, 56, 57, 63, 64, 138, 139, 140, 141, 142, 143, 144, 145, 158, 159, 160, 161, 162, 163, 164, 165, 166, 167, 180, 181, 182, 168, 169, 170, 171, 172, 173, 174, 175, 176, 177, 178, 179] (by decide +kernel) (by decide +kernel)
set_option maxRecDepth 20000 in
theorem gX5_gainOf_X2_copyFrom : GoodIn wsX5_gainOf (wsV RX5 172 RX2 yX2_copyFrom wsX2_copyFrom) := goodIn_app (goodIn_of _ (by decide +kernel)) ggX5_gainOf_X2_copyFrom
theorem dX5_gainOf_0 : decode cX5_gainOf 0 = .ok (.aload_n 0, 1) := by decide +kernel
theorem dX5_gainOf_1 : decode cX5_gainOf 1 = .ok (.getfield 30, 3) := by decide +kernel
theorem dX5_gainOf_4 : decode cX5_gainOf 4 = .ok (.aload_n 0, 1) := by decide +kernel
theorem dX5_gainOf_5 : decode cX5_gainOf 5 = .ok (.getfield 10, 3) := by decide +kernel
theorem dX5_gainOf_8 : decode cX5_gainOf 8 = .ok (.invokevirtual 151, 3) := by decide +kernel
theorem dX5_gainOf_11 : decode cX5_gainOf 11 = .ok (.aload_n 0, 1) := by decide +kernel
theorem dX5_gainOf_12 : decode cX5_gainOf 12 = .ok (.getfield 30, 3) := by decide +kernel
theorem dX5_gainOf_15 : decode cX5_gainOf 15 = .ok (.getfield 155, 3) := by decide +kernel
theorem dX5_gainOf_18 : decode cX5_gainOf 18 = .ok (.iload_n 1, 1) := by decide +kernel
theorem dX5_gainOf_19 : decode cX5_gainOf 19 = .ok (.iaload, 1) := by decide +kernel
theorem dX5_gainOf_20 : decode cX5_gainOf 20 = .ok (.istore_n 3, 1) := by decide +kernel
theorem dX5_gainOf_21 : decode cX5_gainOf 21 = .ok (.aload_n 0, 1) := by decide +kernel
theorem dX5_gainOf_22 : decode cX5_gainOf 22 = .ok (.getfield 16, 3) := by decide +kernel
theorem dX5_gainOf_25 : decode cX5_gainOf 25 = .ok (.aload_n 0, 1) := by decide +kernel
theorem dX5_gainOf_26 : decode cX5_gainOf 26 = .ok (.getfield 10, 3) := by decide +kernel
theorem dX5_gainOf_29 : decode cX5_gainOf 29 = .ok (.invokevirtual 172, 3) := by decide +kernel
theorem dX5_gainOf_32 : decode cX5_gainOf 32 = .ok (.aload_n 0, 1) := by decide +kernel
theorem dX5_gainOf_33 : decode cX5_gainOf 33 = .ok (.getfield 16, 3) := by decide +kernel
theorem dX5_gainOf_36 : decode cX5_gainOf 36 = .ok (.getfield 92, 3) := by decide +kernel
theorem dX5_gainOf_39 : decode cX5_gainOf 39 = .ok (.iload_n 2, 1) := by decide +kernel
theorem dX5_gainOf_40 : decode cX5_gainOf 40 = .ok (.aaload, 1) := by decide +kernel
theorem dX5_gainOf_41 : decode cX5_gainOf 41 = .ok (.iconst 1, 1) := by decide +kernel
theorem dX5_gainOf_42 : decode cX5_gainOf 42 = .ok (.putfield 203, 3) := by decide +kernel
theorem dX5_gainOf_45 : decode cX5_gainOf 45 = .ok (.aload_n 0, 1) := by decide +kernel
theorem dX5_gainOf_46 : decode cX5_gainOf 46 = .ok (.getfield 30, 3) := by decide +kernel
theorem dX5_gainOf_49 : decode cX5_gainOf 49 = .ok (.aload_n 0, 1) := by decide +kernel
theorem dX5_gainOf_50 : decode cX5_gainOf 50 = .ok (.getfield 16, 3) := by decide +kernel
theorem dX5_gainOf_53 : decode cX5_gainOf 53 = .ok (.invokevirtual 151, 3) := by decide +kernel
theorem dX5_gainOf_56 : decode cX5_gainOf 56 = .ok (.aload_n 0, 1) := by decide +kernel
theorem dX5_gainOf_57 : decode cX5_gainOf 57 = .ok (.getfield 30, 3) := by decide +kernel
theorem dX5_gainOf_60 : decode cX5_gainOf 60 = .ok (.getfield 155, 3) := by decide +kernel
theorem dX5_gainOf_63 : decode cX5_gainOf 63 = .ok (.iload_n 1, 1) := by decide +kernel
theorem dX5_gainOf_64 : decode cX5_gainOf 64 = .ok (.iaload, 1) := by decide +kernel
theorem dX5_gainOf_65 : decode cX5_gainOf 65 = .ok (.iload_n 3, 1) := by decide +kernel
theorem dX5_gainOf_66 : decode cX5_gainOf 66 = .ok (.isub, 1) := by decide +kernel
theorem dX5_gainOf_67 : decode cX5_gainOf 67 = .ok (.ireturn, 1) := by decide +kernel
set_option maxRecDepth 20000 in
theorem ggX5_judge_X1_distribute : GoodIn wsX5_judge wsX1_distribute := goodIn_r _ [9, 10, 11, 12, 13, 14, 15, 16, 17, 18, 19, 20, 21, 22, 23, 24, 25, 26, 27, 28, 29, 30, 31, 32, 33, 34, 35, 36, 37, 38, 39, 40, 41, 42, 43, 44, 45, 46, 47, 48, 49, 50, 51, 52, 53, 54, 55, 56, 57, 58, 59, 60, 61, 62, 63, 64, 65, 8, 66, 67, 68, 69, 70, 71, 72, 73, 74, 75, 76, 77, 78, 79, 80, 81, 82, 83, 84, 85, 86, 87, 88, 89, 90, 91, 92, 93, 94, 95, 96, 97, 98, 99, 100, 101, 102, 103, 104, 105, 106, 107, 108, 109, 110, 162, 163, 164, 165, 166, 167, 168, 169, 170, 171, 172, 173, 174, 175, 176, 177, 178, 179, 180, 181, 182, 183, 184, 185, 186, 187, 188, 189, 190, 191, 192] (by decide +kernel) (by decide +kernel)
set_option maxRecDepth 20000 in
theorem gX5_judge_X1_distribute : GoodIn wsX5_judge (wsV RX5 151 RX1 yX1_distribute wsX1_distribute) := goodIn_app (goodIn_of _ (by decide +kernel)) ggX5_judge_X1_distribute
set_option maxRecDepth 20000 in
theorem ggX5_judge_X1_isContent : GoodIn wsX5_judge wsX1_isContent := goodIn_r _ [114, 13, 12, 162, 163, 164, 165, 166, 167] (by decide +kernel) (by decide +kernel)
set_option maxRecDepth 20000 in
theorem gX5_judge_X1_isContent : GoodIn wsX5_judge (wsV RX5 165 RX1 yX1_isContent wsX1_isContent) := goodIn_app (goodIn_of _ (by decide +kernel)) ggX5_judge_X1_isContent
set_option maxRecDepth 20000 in
theorem ggX5_judge_X5_gainOf : GoodIn wsX5_judge wsX5_gainOf := goodIn_r _ [119, 1, 2, 3, 120, 121, 122, 5, 6, 7, 8, 9, 10, 11, 12, 13, 14, 15, 16, 17, 18, 19, 20, 21, 22, 23, 24, 25, 26, 27, 28, 29, 30, 31, 32, 33, 34, 35, 36, 37, 38, 39, 40, 41, 42, 43, 44, 45, 46, 47, 48, 49, 50, 51, 52, 53, 54, 55, 56, 57, 58, 59, 60, 61, 62, 63, 64, 65, 66, 67, 68, 69, 70, 71, 72, 73, 74, 75, 76, 77, 78, 79, 80, 81, 82, 83, 84, 85, 86, 87, 88, 89, 90, 91, 92, 93, 94, 95, 96, 97, 98, 99, 100, 101, 102, 103, 104, 105, 106, 107, 108, 109, 110, 123, 124, 125, 126, 127, 128, 129, 130, 131, 132, 133, 134, 135, 136, 137, 138, 139, 140, 141, 142, 143, 144, 145, 146, 147, 148, 149, 150, 151, 152, 153, 154, 155, 156, 157, 158, 159, 160, 161, 162, 163, 164, 165, 166, 167, 168, 169, 170, 171, 172, 173, 174, 175, 176, 177, 178, 179, 180, 181, 182, 183, 184, 185, 186, 187, 188, 189, 190, 191, 192] (by decide +kernel) (by decide +kernel)
set_option maxRecDepth 20000 in
theorem gX5_judge_X5_gainOf : GoodIn wsX5_judge (wsV RX5 197 RX5 yX5_gainOf wsX5_gainOf) := goodIn_app (goodIn_of _ (by decide +kernel)) ggX5_judge_X5_gainOf
theorem dX5_judge_0 : decode cX5_judge 0 = .ok (.aload_n 0, 1) := by decide +kernel
theorem dX5_judge_1 : decode cX5_judge 1 = .ok (.getfield 30, 3) := by decide +kernel
theorem dX5_judge_4 : decode cX5_judge 4 = .ok (.aload_n 0, 1) := by decide +kernel
theorem dX5_judge_5 : decode cX5_judge 5 = .ok (.getfield 10, 3) := by decide +kernel
theorem dX5_judge_8 : decode cX5_judge 8 = .ok (.invokevirtual 151, 3) := by decide +kernel
theorem dX5_judge_11 : decode cX5_judge 11 = .ok (.aload_n 0, 1) := by decide +kernel
theorem dX5_judge_12 : decode cX5_judge 12 = .ok (.getfield 30, 3) := by decide +kernel
theorem dX5_judge_15 : decode cX5_judge 15 = .ok (.getfield 155, 3) := by decide +kernel
theorem dX5_judge_18 : decode cX5_judge 18 = .ok (.iload_n 2, 1) := by decide +kernel
theorem dX5_judge_19 : decode cX5_judge 19 = .ok (.iaload, 1) := by decide +kernel
theorem dX5_judge_20 : decode cX5_judge 20 = .ok (.istore_n 3, 1) := by decide +kernel
theorem dX5_judge_21 : decode cX5_judge 21 = .ok (.aload_n 0, 1) := by decide +kernel
theorem dX5_judge_22 : decode cX5_judge 22 = .ok (.getfield 30, 3) := by decide +kernel
theorem dX5_judge_25 : decode cX5_judge 25 = .ok (.iload_n 1, 1) := by decide +kernel
theorem dX5_judge_26 : decode cX5_judge 26 = .ok (.invokevirtual 165, 3) := by decide +kernel
theorem dX5_judge_29 : decode cX5_judge 29 = .ok (.ifCond .ne 7, 3) := by decide +kernel
theorem dX5_judge_32 : decode cX5_judge 32 = .ok (.iload_n 3, 1) := by decide +kernel
theorem dX5_judge_33 : decode cX5_judge 33 = .ok (.ifCond .ne 5, 3) := by decide +kernel
theorem dX5_judge_36 : decode cX5_judge 36 = .ok (.iconst 0, 1) := by decide +kernel
theorem dX5_judge_37 : decode cX5_judge 37 = .ok (.ireturn, 1) := by decide +kernel
theorem dX5_judge_38 : decode cX5_judge 38 = .ok (.aload_n 0, 1) := by decide +kernel
theorem dX5_judge_39 : decode cX5_judge 39 = .ok (.iload_n 1, 1) := by decide +kernel
theorem dX5_judge_40 : decode cX5_judge 40 = .ok (.iload_n 2, 1) := by decide +kernel
theorem dX5_judge_41 : decode cX5_judge 41 = .ok (.invokevirtual 197, 3) := by decide +kernel
theorem dX5_judge_44 : decode cX5_judge 44 = .ok (.istore 4, 2) := by decide +kernel
theorem dX5_judge_46 : decode cX5_judge 46 = .ok (.iload 4, 2) := by decide +kernel
theorem dX5_judge_48 : decode cX5_judge 48 = .ok (.ifCond .eq 20, 3) := by decide +kernel
theorem dX5_judge_51 : decode cX5_judge 51 = .ok (.bipush 100, 2) := by decide +kernel
theorem dX5_judge_53 : decode cX5_judge 53 = .ok (.iload 4, 2) := by decide +kernel
theorem dX5_judge_55 : decode cX5_judge 55 = .ok (.imul, 1) := by decide +kernel
theorem dX5_judge_56 : decode cX5_judge 56 = .ok (.aload_n 0, 1) := by decide +kernel
theorem dX5_judge_57 : decode cX5_judge 57 = .ok (.getfield 10, 3) := by decide +kernel
theorem dX5_judge_60 : decode cX5_judge 60 = .ok (.getfield 135, 3) := by decide +kernel
theorem dX5_judge_63 : decode cX5_judge 63 = .ok (.iload_n 3, 1) := by decide +kernel
theorem dX5_judge_64 : decode cX5_judge 64 = .ok (.imul, 1) := by decide +kernel
theorem dX5_judge_65 : decode cX5_judge 65 = .ok (.if_icmp .ge 7, 3) := by decide +kernel
theorem dX5_judge_68 : decode cX5_judge 68 = .ok (.iconst 1, 1) := by decide +kernel
theorem dX5_judge_69 : decode cX5_judge 69 = .ok (.goto 4, 3) := by decide +kernel
theorem dX5_judge_72 : decode cX5_judge 72 = .ok (.iconst 2, 1) := by decide +kernel
theorem dX5_judge_73 : decode cX5_judge 73 = .ok (.ireturn, 1) := by decide +kernel
theorem dX5_isWithin_0 : decode cX5_isWithin 0 = .ok (.iload_n 0, 1) := by decide +kernel
theorem dX5_isWithin_1 : decode cX5_isWithin 1 = .ok (.iload_n 1, 1) := by decide +kernel
theorem dX5_isWithin_2 : decode cX5_isWithin 2 = .ok (.if_icmp .lt 12, 3) := by decide +kernel
theorem dX5_isWithin_5 : decode cX5_isWithin 5 = .ok (.iload_n 0, 1) := by decide +kernel
theorem dX5_isWithin_6 : decode cX5_isWithin 6 = .ok (.iload_n 2, 1) := by decide +kernel
theorem dX5_isWithin_7 : decode cX5_isWithin 7 = .ok (.if_icmp .gt 7, 3) := by decide +kernel
theorem dX5_isWithin_10 : decode cX5_isWithin 10 = .ok (.iconst 1, 1) := by decide +kernel
theorem dX5_isWithin_11 : decode cX5_isWithin 11 = .ok (.goto 4, 3) := by decide +kernel
theorem dX5_isWithin_14 : decode cX5_isWithin 14 = .ok (.iconst 0, 1) := by decide +kernel
theorem dX5_isWithin_15 : decode cX5_isWithin 15 = .ok (.ireturn, 1) := by decide +kernel
set_option maxRecDepth 20000 in
theorem ggX5_areGateAndLoss_X5_isWithin : GoodIn wsX5_areGateAndLoss wsX5_isWithin := goodIn_r _ [4] (by decide +kernel) (by decide +kernel)
set_option maxRecDepth 20000 in
theorem gX5_areGateAndLoss_X5_isWithin : GoodIn wsX5_areGateAndLoss (va_wsS RX5 73 yX5_isWithin wsX5_isWithin) := goodIn_app (goodIn_of _ (by decide +kernel)) ggX5_areGateAndLoss_X5_isWithin
theorem dX5_areGateAndLoss_0 : decode cX5_areGateAndLoss 0 = .ok (.iload_n 0, 1) := by decide +kernel
theorem dX5_areGateAndLoss_1 : decode cX5_areGateAndLoss 1 = .ok (.iconst 1, 1) := by decide +kernel
theorem dX5_areGateAndLoss_2 : decode cX5_areGateAndLoss 2 = .ok (.sipush 200, 3) := by decide +kernel
theorem dX5_areGateAndLoss_5 : decode cX5_areGateAndLoss 5 = .ok (.invokestatic 73, 3) := by decide +kernel
theorem dX5_areGateAndLoss_8 : decode cX5_areGateAndLoss 8 = .ok (.ifCond .eq 17, 3) := by decide +kernel
theorem dX5_areGateAndLoss_11 : decode cX5_areGateAndLoss 11 = .ok (.iload_n 1, 1) := by decide +kernel
theorem dX5_areGateAndLoss_12 : decode cX5_areGateAndLoss 12 = .ok (.iconst 0, 1) := by decide +kernel
theorem dX5_areGateAndLoss_13 : decode cX5_areGateAndLoss 13 = .ok (.bipush 50, 2) := by decide +kernel
theorem dX5_areGateAndLoss_15 : decode cX5_areGateAndLoss 15 = .ok (.invokestatic 73, 3) := by decide +kernel
theorem dX5_areGateAndLoss_18 : decode cX5_areGateAndLoss 18 = .ok (.ifCond .eq 7, 3) := by decide +kernel
theorem dX5_areGateAndLoss_21 : decode cX5_areGateAndLoss 21 = .ok (.iconst 1, 1) := by decide +kernel
theorem dX5_areGateAndLoss_22 : decode cX5_areGateAndLoss 22 = .ok (.goto 4, 3) := by decide +kernel
theorem dX5_areGateAndLoss_25 : decode cX5_areGateAndLoss 25 = .ok (.iconst 0, 1) := by decide +kernel
theorem dX5_areGateAndLoss_26 : decode cX5_areGateAndLoss 26 = .ok (.ireturn, 1) := by decide +kernel
set_option maxRecDepth 20000 in
theorem ggX5_areHours_X5_isWithin : GoodIn wsX5_areHours wsX5_isWithin := goodIn_r _ [4] (by decide +kernel) (by decide +kernel)
set_option maxRecDepth 20000 in
theorem gX5_areHours_X5_isWithin : GoodIn wsX5_areHours (va_wsS RX5 73 yX5_isWithin wsX5_isWithin) := goodIn_app (goodIn_of _ (by decide +kernel)) ggX5_areHours_X5_isWithin
theorem dX5_areHours_0 : decode cX5_areHours 0 = .ok (.iload_n 0, 1) := by decide +kernel
theorem dX5_areHours_1 : decode cX5_areHours 1 = .ok (.iconst 0, 1) := by decide +kernel
theorem dX5_areHours_2 : decode cX5_areHours 2 = .ok (.bipush 23, 2) := by decide +kernel
theorem dX5_areHours_4 : decode cX5_areHours 4 = .ok (.invokestatic 73, 3) := by decide +kernel
theorem dX5_areHours_7 : decode cX5_areHours 7 = .ok (.ifCond .eq 18, 3) := by decide +kernel
theorem dX5_areHours_10 : decode cX5_areHours 10 = .ok (.iload_n 1, 1) := by decide +kernel
theorem dX5_areHours_11 : decode cX5_areHours 11 = .ok (.iload_n 0, 1) := by decide +kernel
theorem dX5_areHours_12 : decode cX5_areHours 12 = .ok (.if_icmp .le 13, 3) := by decide +kernel
theorem dX5_areHours_15 : decode cX5_areHours 15 = .ok (.iload_n 1, 1) := by decide +kernel
theorem dX5_areHours_16 : decode cX5_areHours 16 = .ok (.bipush 24, 2) := by decide +kernel
theorem dX5_areHours_18 : decode cX5_areHours 18 = .ok (.if_icmp .gt 7, 3) := by decide +kernel
theorem dX5_areHours_21 : decode cX5_areHours 21 = .ok (.iconst 1, 1) := by decide +kernel
theorem dX5_areHours_22 : decode cX5_areHours 22 = .ok (.goto 4, 3) := by decide +kernel
theorem dX5_areHours_25 : decode cX5_areHours 25 = .ok (.iconst 0, 1) := by decide +kernel
theorem dX5_areHours_26 : decode cX5_areHours 26 = .ok (.ireturn, 1) := by decide +kernel
theorem dX6_init_0 : decode cX6_init 0 = .ok (.aload_n 0, 1) := by decide +kernel
theorem dX6_init_1 : decode cX6_init 1 = .ok (.invokespecial 1, 3) := by decide +kernel
theorem dX6_init_4 : decode cX6_init 4 = .ok (.aload_n 0, 1) := by decide +kernel
theorem dX6_init_5 : decode cX6_init 5 = .ok (.sipush 214, 3) := by decide +kernel
theorem dX6_init_8 : decode cX6_init 8 = .ok (.newarray .int, 2) := by decide +kernel
theorem dX6_init_10 : decode cX6_init 10 = .ok (.putfield 7, 3) := by decide +kernel
theorem dX6_init_13 : decode cX6_init 13 = .ok (.aload_n 0, 1) := by decide +kernel
theorem dX6_init_14 : decode cX6_init 14 = .ok (.sipush 214, 3) := by decide +kernel
theorem dX6_init_17 : decode cX6_init 17 = .ok (.newarray .int, 2) := by decide +kernel
theorem dX6_init_19 : decode cX6_init 19 = .ok (.putfield 13, 3) := by decide +kernel
theorem dX6_init_22 : decode cX6_init 22 = .ok (.aload_n 0, 1) := by decide +kernel
theorem dX6_init_23 : decode cX6_init 23 = .ok (.sipush 428, 3) := by decide +kernel
theorem dX6_init_26 : decode cX6_init 26 = .ok (.newarray .int, 2) := by decide +kernel
theorem dX6_init_28 : decode cX6_init 28 = .ok (.putfield 16, 3) := by decide +kernel
theorem dX6_init_31 : decode cX6_init 31 = .ok (.aload_n 0, 1) := by decide +kernel
theorem dX6_init_32 : decode cX6_init 32 = .ok (.iconst 2, 1) := by decide +kernel
theorem dX6_init_33 : decode cX6_init 33 = .ok (.newarray .boolean, 2) := by decide +kernel
theorem dX6_init_35 : decode cX6_init 35 = .ok (.putfield 19, 3) := by decide +kernel
theorem dX6_init_38 : decode cX6_init 38 = .ok (.aload_n 0, 1) := by decide +kernel
theorem dX6_init_39 : decode cX6_init 39 = .ok (.bipush 100, 2) := by decide +kernel
theorem dX6_init_41 : decode cX6_init 41 = .ok (.newarray .int, 2) := by decide +kernel
theorem dX6_init_43 : decode cX6_init 43 = .ok (.putfield 23, 3) := by decide +kernel
theorem dX6_init_46 : decode cX6_init 46 = .ok (.aload_n 0, 1) := by decide +kernel
theorem dX6_init_47 : decode cX6_init 47 = .ok (.bipush 12, 2) := by decide +kernel
theorem dX6_init_49 : decode cX6_init 49 = .ok (.newarray .int, 2) := by decide +kernel
theorem dX6_init_51 : decode cX6_init 51 = .ok (.putfield 26, 3) := by decide +kernel
theorem dX6_init_54 : decode cX6_init 54 = .ok (.aload_n 0, 1) := by decide +kernel
theorem dX6_init_55 : decode cX6_init 55 = .ok (.bipush 12, 2) := by decide +kernel
theorem dX6_init_57 : decode cX6_init 57 = .ok (.newarray .int, 2) := by decide +kernel
theorem dX6_init_59 : decode cX6_init 59 = .ok (.putfield 29, 3) := by decide +kernel
theorem dX6_init_62 : decode cX6_init 62 = .ok (.aload_n 0, 1) := by decide +kernel
theorem dX6_init_63 : decode cX6_init 63 = .ok (.bipush 10, 2) := by decide +kernel
theorem dX6_init_65 : decode cX6_init 65 = .ok (.newarray .int, 2) := by decide +kernel
theorem dX6_init_67 : decode cX6_init 67 = .ok (.putfield 32, 3) := by decide +kernel
theorem dX6_init_70 : decode cX6_init 70 = .ok (.aload_n 0, 1) := by decide +kernel
theorem dX6_init_71 : decode cX6_init 71 = .ok (.bipush 10, 2) := by decide +kernel
theorem dX6_init_73 : decode cX6_init 73 = .ok (.newarray .int, 2) := by decide +kernel
theorem dX6_init_75 : decode cX6_init 75 = .ok (.putfield 35, 3) := by decide +kernel
theorem dX6_init_78 : decode cX6_init 78 = .ok (.aload_n 0, 1) := by decide +kernel
theorem dX6_init_79 : decode cX6_init 79 = .ok (.iconst 3, 1) := by decide +kernel
theorem dX6_init_80 : decode cX6_init 80 = .ok (.newarray .int, 2) := by decide +kernel
theorem dX6_init_82 : decode cX6_init 82 = .ok (.putfield 38, 3) := by decide +kernel
theorem dX6_init_85 : decode cX6_init 85 = .ok (.aload_n 0, 1) := by decide +kernel
theorem dX6_init_86 : decode cX6_init 86 = .ok (.getfield 7, 3) := by decide +kernel
theorem dX6_init_89 : decode cX6_init 89 = .ok (.iconst 1, 1) := by decide +kernel
theorem dX6_init_90 : decode cX6_init 90 = .ok (.iconst 1, 1) := by decide +kernel
theorem dX6_init_91 : decode cX6_init 91 = .ok (.iastore, 1) := by decide +kernel
theorem dX6_init_92 : decode cX6_init 92 = .ok (.aload_n 0, 1) := by decide +kernel
theorem dX6_init_93 : decode cX6_init 93 = .ok (.getfield 7, 3) := by decide +kernel
theorem dX6_init_96 : decode cX6_init 96 = .ok (.iconst 4, 1) := by decide +kernel
theorem dX6_init_97 : decode cX6_init 97 = .ok (.bipush 30, 2) := by decide +kernel
theorem dX6_init_99 : decode cX6_init 99 = .ok (.iastore, 1) := by decide +kernel
theorem dX6_init_100 : decode cX6_init 100 = .ok (.aload_n 0, 1) := by decide +kernel
theorem dX6_init_101 : decode cX6_init 101 = .ok (.getfield 7, 3) := by decide +kernel
theorem dX6_init_104 : decode cX6_init 104 = .ok (.bipush 50, 2) := by decide +kernel
theorem dX6_init_106 : decode cX6_init 106 = .ok (.bipush 100, 2) := by decide +kernel
theorem dX6_init_108 : decode cX6_init 108 = .ok (.iastore, 1) := by decide +kernel
theorem dX6_init_109 : decode cX6_init 109 = .ok (.iconst 0, 1) := by decide +kernel
theorem dX6_init_110 : decode cX6_init 110 = .ok (.istore_n 1, 1) := by decide +kernel
theorem dX6_init_111 : decode cX6_init 111 = .ok (.iload_n 1, 1) := by decide +kernel
theorem dX6_init_112 : decode cX6_init 112 = .ok (.bipush 24, 2) := by decide +kernel
theorem dX6_init_114 : decode cX6_init 114 = .ok (.if_icmp .ge 20, 3) := by decide +kernel
theorem dX6_init_117 : decode cX6_init 117 = .ok (.aload_n 0, 1) := by decide +kernel
theorem dX6_init_118 : decode cX6_init 118 = .ok (.getfield 7, 3) := by decide +kernel
theorem dX6_init_121 : decode cX6_init 121 = .ok (.bipush 12, 2) := by decide +kernel
theorem dX6_init_123 : decode cX6_init 123 = .ok (.iload_n 1, 1) := by decide +kernel
theorem dX6_init_124 : decode cX6_init 124 = .ok (.iadd, 1) := by decide +kernel
theorem dX6_init_125 : decode cX6_init 125 = .ok (.bipush 100, 2) := by decide +kernel
theorem dX6_init_127 : decode cX6_init 127 = .ok (.iastore, 1) := by decide +kernel
theorem dX6_init_128 : decode cX6_init 128 = .ok (.iinc 1 1, 3) := by decide +kernel
theorem dX6_init_131 : decode cX6_init 131 = .ok (.goto (-20), 3) := by decide +kernel
theorem dX6_init_134 : decode cX6_init 134 = .ok (.return_, 1) := by decide +kernel
theorem dX6_in_0 : decode cX6_in 0 = .ok (.iload_n 0, 1) := by decide +kernel
theorem dX6_in_1 : decode cX6_in 1 = .ok (.iload_n 1, 1) := by decide +kernel
theorem dX6_in_2 : decode cX6_in 2 = .ok (.if_icmp .lt 12, 3) := by decide +kernel
theorem dX6_in_5 : decode cX6_in 5 = .ok (.iload_n 0, 1) := by decide +kernel
theorem dX6_in_6 : decode cX6_in 6 = .ok (.iload_n 2, 1) := by decide +kernel
theorem dX6_in_7 : decode cX6_in 7 = .ok (.if_icmp .gt 7, 3) := by decide +kernel
theorem dX6_in_10 : decode cX6_in 10 = .ok (.iconst 1, 1) := by decide +kernel
theorem dX6_in_11 : decode cX6_in 11 = .ok (.goto 4, 3) := by decide +kernel
theorem dX6_in_14 : decode cX6_in 14 = .ok (.iconst 0, 1) := by decide +kernel
theorem dX6_in_15 : decode cX6_in 15 = .ok (.ireturn, 1) := by decide +kernel
theorem dX6_least_0 : decode cX6_least 0 = .ok (.iload_n 0, 1) := by decide +kernel
theorem dX6_least_1 : decode cX6_least 1 = .ok (.iload_n 1, 1) := by decide +kernel
theorem dX6_least_2 : decode cX6_least 2 = .ok (.if_icmp .ge 7, 3) := by decide +kernel
theorem dX6_least_5 : decode cX6_least 5 = .ok (.iload_n 0, 1) := by decide +kernel
theorem dX6_least_6 : decode cX6_least 6 = .ok (.goto 4, 3) := by decide +kernel
theorem dX6_least_9 : decode cX6_least 9 = .ok (.iload_n 1, 1) := by decide +kernel
theorem dX6_least_10 : decode cX6_least 10 = .ok (.ireturn, 1) := by decide +kernel
set_option maxRecDepth 20000 in
theorem ggX6_isDitch_X6_in : GoodIn wsX6_isDitch wsX6_in := goodIn_r _ [5] (by decide +kernel) (by decide +kernel)
set_option maxRecDepth 20000 in
theorem gX6_isDitch_X6_in : GoodIn wsX6_isDitch (va_wsS RX6 41 yX6_in wsX6_in) := goodIn_app (goodIn_of _ (by decide +kernel)) ggX6_isDitch_X6_in
theorem dX6_isDitch_0 : decode cX6_isDitch 0 = .ok (.iload_n 1, 1) := by decide +kernel
theorem dX6_isDitch_1 : decode cX6_isDitch 1 = .ok (.iconst 0, 1) := by decide +kernel
theorem dX6_isDitch_2 : decode cX6_isDitch 2 = .ok (.aload_n 0, 1) := by decide +kernel
theorem dX6_isDitch_3 : decode cX6_isDitch 3 = .ok (.getfield 7, 3) := by decide +kernel
theorem dX6_isDitch_6 : decode cX6_isDitch 6 = .ok (.iconst 1, 1) := by decide +kernel
theorem dX6_isDitch_7 : decode cX6_isDitch 7 = .ok (.iaload, 1) := by decide +kernel
theorem dX6_isDitch_8 : decode cX6_isDitch 8 = .ok (.iconst 1, 1) := by decide +kernel
theorem dX6_isDitch_9 : decode cX6_isDitch 9 = .ok (.isub, 1) := by decide +kernel
theorem dX6_isDitch_10 : decode cX6_isDitch 10 = .ok (.invokestatic 41, 3) := by decide +kernel
theorem dX6_isDitch_13 : decode cX6_isDitch 13 = .ok (.ireturn, 1) := by decide +kernel
set_option maxRecDepth 20000 in
theorem ggX6_isUser_X6_in : GoodIn wsX6_isUser wsX6_in := goodIn_r _ [5] (by decide +kernel) (by decide +kernel)
set_option maxRecDepth 20000 in
theorem gX6_isUser_X6_in : GoodIn wsX6_isUser (va_wsS RX6 41 yX6_in wsX6_in) := goodIn_app (goodIn_of _ (by decide +kernel)) ggX6_isUser_X6_in
theorem dX6_isUser_0 : decode cX6_isUser 0 = .ok (.iload_n 1, 1) := by decide +kernel
theorem dX6_isUser_1 : decode cX6_isUser 1 = .ok (.iconst 0, 1) := by decide +kernel
theorem dX6_isUser_2 : decode cX6_isUser 2 = .ok (.aload_n 0, 1) := by decide +kernel
theorem dX6_isUser_3 : decode cX6_isUser 3 = .ok (.getfield 7, 3) := by decide +kernel
theorem dX6_isUser_6 : decode cX6_isUser 6 = .ok (.iconst 2, 1) := by decide +kernel
theorem dX6_isUser_7 : decode cX6_isUser 7 = .ok (.iaload, 1) := by decide +kernel
theorem dX6_isUser_8 : decode cX6_isUser 8 = .ok (.iconst 1, 1) := by decide +kernel
theorem dX6_isUser_9 : decode cX6_isUser 9 = .ok (.isub, 1) := by decide +kernel
theorem dX6_isUser_10 : decode cX6_isUser 10 = .ok (.invokestatic 41, 3) := by decide +kernel
theorem dX6_isUser_13 : decode cX6_isUser 13 = .ok (.ireturn, 1) := by decide +kernel
theorem dX6_puts_0 : decode cX6_puts 0 = .ok (.aload_n 0, 1) := by decide +kernel
theorem dX6_puts_1 : decode cX6_puts 1 = .ok (.getfield 7, 3) := by decide +kernel
theorem dX6_puts_4 : decode cX6_puts 4 = .ok (.iload_n 1, 1) := by decide +kernel
theorem dX6_puts_5 : decode cX6_puts 5 = .ok (.iaload, 1) := by decide +kernel
theorem dX6_puts_6 : decode cX6_puts 6 = .ok (.istore_n 3, 1) := by decide +kernel
theorem dX6_puts_7 : decode cX6_puts 7 = .ok (.aload_n 0, 1) := by decide +kernel
theorem dX6_puts_8 : decode cX6_puts 8 = .ok (.getfield 7, 3) := by decide +kernel
theorem dX6_puts_11 : decode cX6_puts 11 = .ok (.iload_n 1, 1) := by decide +kernel
theorem dX6_puts_12 : decode cX6_puts 12 = .ok (.iload_n 2, 1) := by decide +kernel
theorem dX6_puts_13 : decode cX6_puts 13 = .ok (.iastore, 1) := by decide +kernel
theorem dX6_puts_14 : decode cX6_puts 14 = .ok (.iload_n 3, 1) := by decide +kernel
theorem dX6_puts_15 : decode cX6_puts 15 = .ok (.ireturn, 1) := by decide +kernel
set_option maxRecDepth 20000 in
theorem ggX6_isGate_X6_in : GoodIn wsX6_isGate wsX6_in := goodIn_r _ [4] (by decide +kernel) (by decide +kernel)
set_option maxRecDepth 20000 in
theorem gX6_isGate_X6_in : GoodIn wsX6_isGate (va_wsS RX6 41 yX6_in wsX6_in) := goodIn_app (goodIn_of _ (by decide +kernel)) ggX6_isGate_X6_in
theorem dX6_isGate_0 : decode cX6_isGate 0 = .ok (.iload_n 0, 1) := by decide +kernel
theorem dX6_isGate_1 : decode cX6_isGate 1 = .ok (.iconst 1, 1) := by decide +kernel
theorem dX6_isGate_2 : decode cX6_isGate 2 = .ok (.sipush 200, 3) := by decide +kernel
theorem dX6_isGate_5 : decode cX6_isGate 5 = .ok (.invokestatic 41, 3) := by decide +kernel
theorem dX6_isGate_8 : decode cX6_isGate 8 = .ok (.ifCond .eq 17, 3) := by decide +kernel
theorem dX6_isGate_11 : decode cX6_isGate 11 = .ok (.iload_n 1, 1) := by decide +kernel
theorem dX6_isGate_12 : decode cX6_isGate 12 = .ok (.iconst 0, 1) := by decide +kernel
theorem dX6_isGate_13 : decode cX6_isGate 13 = .ok (.bipush 50, 2) := by decide +kernel
theorem dX6_isGate_15 : decode cX6_isGate 15 = .ok (.invokestatic 41, 3) := by decide +kernel
theorem dX6_isGate_18 : decode cX6_isGate 18 = .ok (.ifCond .eq 7, 3) := by decide +kernel
theorem dX6_isGate_21 : decode cX6_isGate 21 = .ok (.iconst 1, 1) := by decide +kernel
theorem dX6_isGate_22 : decode cX6_isGate 22 = .ok (.goto 4, 3) := by decide +kernel
theorem dX6_isGate_25 : decode cX6_isGate 25 = .ok (.iconst 0, 1) := by decide +kernel
theorem dX6_isGate_26 : decode cX6_isGate 26 = .ok (.ireturn, 1) := by decide +kernel
theorem dX6_addsDitch_0 : decode cX6_addsDitch 0 = .ok (.aload_n 0, 1) := by decide +kernel
theorem dX6_addsDitch_1 : decode cX6_addsDitch 1 = .ok (.getfield 7, 3) := by decide +kernel
theorem dX6_addsDitch_4 : decode cX6_addsDitch 4 = .ok (.iconst 1, 1) := by decide +kernel
theorem dX6_addsDitch_5 : decode cX6_addsDitch 5 = .ok (.iaload, 1) := by decide +kernel
theorem dX6_addsDitch_6 : decode cX6_addsDitch 6 = .ok (.istore 4, 2) := by decide +kernel
theorem dX6_addsDitch_8 : decode cX6_addsDitch 8 = .ok (.aload_n 0, 1) := by decide +kernel
theorem dX6_addsDitch_9 : decode cX6_addsDitch 9 = .ok (.getfield 7, 3) := by decide +kernel
theorem dX6_addsDitch_12 : decode cX6_addsDitch 12 = .ok (.bipush 40, 2) := by decide +kernel
theorem dX6_addsDitch_14 : decode cX6_addsDitch 14 = .ok (.iload 4, 2) := by decide +kernel
theorem dX6_addsDitch_16 : decode cX6_addsDitch 16 = .ok (.iadd, 1) := by decide +kernel
theorem dX6_addsDitch_17 : decode cX6_addsDitch 17 = .ok (.iload_n 1, 1) := by decide +kernel
theorem dX6_addsDitch_18 : decode cX6_addsDitch 18 = .ok (.iastore, 1) := by decide +kernel
theorem dX6_addsDitch_19 : decode cX6_addsDitch 19 = .ok (.aload_n 0, 1) := by decide +kernel
theorem dX6_addsDitch_20 : decode cX6_addsDitch 20 = .ok (.getfield 7, 3) := by decide +kernel
theorem dX6_addsDitch_23 : decode cX6_addsDitch 23 = .ok (.bipush 50, 2) := by decide +kernel
theorem dX6_addsDitch_25 : decode cX6_addsDitch 25 = .ok (.iload 4, 2) := by decide +kernel
theorem dX6_addsDitch_27 : decode cX6_addsDitch 27 = .ok (.iadd, 1) := by decide +kernel
theorem dX6_addsDitch_28 : decode cX6_addsDitch 28 = .ok (.iload_n 2, 1) := by decide +kernel
theorem dX6_addsDitch_29 : decode cX6_addsDitch 29 = .ok (.iastore, 1) := by decide +kernel
theorem dX6_addsDitch_30 : decode cX6_addsDitch 30 = .ok (.aload_n 0, 1) := by decide +kernel
theorem dX6_addsDitch_31 : decode cX6_addsDitch 31 = .ok (.getfield 7, 3) := by decide +kernel
theorem dX6_addsDitch_34 : decode cX6_addsDitch 34 = .ok (.bipush 60, 2) := by decide +kernel
theorem dX6_addsDitch_36 : decode cX6_addsDitch 36 = .ok (.iload 4, 2) := by decide +kernel
theorem dX6_addsDitch_38 : decode cX6_addsDitch 38 = .ok (.iadd, 1) := by decide +kernel
theorem dX6_addsDitch_39 : decode cX6_addsDitch 39 = .ok (.iload_n 3, 1) := by decide +kernel
theorem dX6_addsDitch_40 : decode cX6_addsDitch 40 = .ok (.iastore, 1) := by decide +kernel
theorem dX6_addsDitch_41 : decode cX6_addsDitch 41 = .ok (.aload_n 0, 1) := by decide +kernel
theorem dX6_addsDitch_42 : decode cX6_addsDitch 42 = .ok (.getfield 7, 3) := by decide +kernel
theorem dX6_addsDitch_45 : decode cX6_addsDitch 45 = .ok (.iconst 1, 1) := by decide +kernel
theorem dX6_addsDitch_46 : decode cX6_addsDitch 46 = .ok (.dup2, 1) := by decide +kernel
theorem dX6_addsDitch_47 : decode cX6_addsDitch 47 = .ok (.iaload, 1) := by decide +kernel
theorem dX6_addsDitch_48 : decode cX6_addsDitch 48 = .ok (.iconst 1, 1) := by decide +kernel
theorem dX6_addsDitch_49 : decode cX6_addsDitch 49 = .ok (.iadd, 1) := by decide +kernel
theorem dX6_addsDitch_50 : decode cX6_addsDitch 50 = .ok (.iastore, 1) := by decide +kernel
theorem dX6_addsDitch_51 : decode cX6_addsDitch 51 = .ok (.iload 4, 2) := by decide +kernel
theorem dX6_addsDitch_53 : decode cX6_addsDitch 53 = .ok (.ireturn, 1) := by decide +kernel
set_option maxRecDepth 20000 in
theorem ggX6_addDitch_X6_isDitch : GoodIn wsX6_addDitch wsX6_isDitch := goodIn_r _ [6, 1, 7, 8, 5, 9, 17, 18, 19, 20, 21, 22, 23, 24, 25, 26, 27, 28] (by decide +kernel) (by decide +kernel)
set_option maxRecDepth 20000 in
theorem gX6_addDitch_X6_isDitch : GoodIn wsX6_addDitch (wsV RX6 45 RX6 yX6_isDitch wsX6_isDitch) := goodIn_app (goodIn_of _ (by decide +kernel)) ggX6_addDitch_X6_isDitch
set_option maxRecDepth 20000 in
theorem ggX6_addDitch_X6_isGate : GoodIn wsX6_addDitch wsX6_isGate := goodIn_r _ [12, 7, 8, 5, 9] (by decide +kernel) (by decide +kernel)
set_option maxRecDepth 20000 in
theorem gX6_addDitch_X6_isGate : GoodIn wsX6_addDitch (va_wsS RX6 49 yX6_isGate wsX6_isGate) := goodIn_app (goodIn_of _ (by decide +kernel)) ggX6_addDitch_X6_isGate
set_option maxRecDepth 20000 in
theorem ggX6_addDitch_X6_addsDitch : GoodIn wsX6_addDitch wsX6_addsDitch := goodIn_r _ [16, 1, 17, 18, 19, 20, 21, 22, 23, 24, 25, 26, 27, 28] (by decide +kernel) (by decide +kernel)
set_option maxRecDepth 20000 in
theorem gX6_addDitch_X6_addsDitch : GoodIn wsX6_addDitch (wsV RX6 53 RX6 yX6_addsDitch wsX6_addsDitch) := goodIn_app (goodIn_of _ (by decide +kernel)) ggX6_addDitch_X6_addsDitch
theorem dX6_addDitch_0 : decode cX6_addDitch 0 = .ok (.aload_n 0, 1) := by decide +kernel
theorem dX6_addDitch_1 : decode cX6_addDitch 1 = .ok (.iload_n 1, 1) := by decide +kernel
theorem dX6_addDitch_2 : decode cX6_addDitch 2 = .ok (.invokevirtual 45, 3) := by decide +kernel
theorem dX6_addDitch_5 : decode cX6_addDitch 5 = .ok (.ifCond .ne 6, 3) := by decide +kernel
theorem dX6_addDitch_8 : decode cX6_addDitch 8 = .ok (.bipush (-101), 2) := by decide +kernel
theorem dX6_addDitch_10 : decode cX6_addDitch 10 = .ok (.ireturn, 1) := by decide +kernel
theorem dX6_addDitch_11 : decode cX6_addDitch 11 = .ok (.iload_n 2, 1) := by decide +kernel
theorem dX6_addDitch_12 : decode cX6_addDitch 12 = .ok (.iload_n 3, 1) := by decide +kernel
theorem dX6_addDitch_13 : decode cX6_addDitch 13 = .ok (.invokestatic 49, 3) := by decide +kernel
theorem dX6_addDitch_16 : decode cX6_addDitch 16 = .ok (.ifCond .ne 6, 3) := by decide +kernel
theorem dX6_addDitch_19 : decode cX6_addDitch 19 = .ok (.bipush (-102), 2) := by decide +kernel
theorem dX6_addDitch_21 : decode cX6_addDitch 21 = .ok (.ireturn, 1) := by decide +kernel
theorem dX6_addDitch_22 : decode cX6_addDitch 22 = .ok (.aload_n 0, 1) := by decide +kernel
theorem dX6_addDitch_23 : decode cX6_addDitch 23 = .ok (.getfield 7, 3) := by decide +kernel
theorem dX6_addDitch_26 : decode cX6_addDitch 26 = .ok (.iconst 1, 1) := by decide +kernel
theorem dX6_addDitch_27 : decode cX6_addDitch 27 = .ok (.iaload, 1) := by decide +kernel
theorem dX6_addDitch_28 : decode cX6_addDitch 28 = .ok (.bipush 10, 2) := by decide +kernel
theorem dX6_addDitch_30 : decode cX6_addDitch 30 = .ok (.if_icmp .ne 8, 3) := by decide +kernel
theorem dX6_addDitch_33 : decode cX6_addDitch 33 = .ok (.bipush (-104), 2) := by decide +kernel
theorem dX6_addDitch_35 : decode cX6_addDitch 35 = .ok (.goto 10, 3) := by decide +kernel
theorem dX6_addDitch_38 : decode cX6_addDitch 38 = .ok (.aload_n 0, 1) := by decide +kernel
theorem dX6_addDitch_39 : decode cX6_addDitch 39 = .ok (.iload_n 1, 1) := by decide +kernel
theorem dX6_addDitch_40 : decode cX6_addDitch 40 = .ok (.iload_n 2, 1) := by decide +kernel
theorem dX6_addDitch_41 : decode cX6_addDitch 41 = .ok (.iload_n 3, 1) := by decide +kernel
theorem dX6_addDitch_42 : decode cX6_addDitch 42 = .ok (.invokevirtual 53, 3) := by decide +kernel
theorem dX6_addDitch_45 : decode cX6_addDitch 45 = .ok (.ireturn, 1) := by decide +kernel
set_option maxRecDepth 20000 in
theorem ggX6_setDitch_X6_isDitch : GoodIn wsX6_setDitch wsX6_isDitch := goodIn_r _ [6, 1, 7, 8, 5, 9, 17, 18, 19, 20, 21, 22, 23, 24, 25, 26, 27, 28] (by decide +kernel) (by decide +kernel)
set_option maxRecDepth 20000 in
theorem gX6_setDitch_X6_isDitch : GoodIn wsX6_setDitch (wsV RX6 45 RX6 yX6_isDitch wsX6_isDitch) := goodIn_app (goodIn_of _ (by decide +kernel)) ggX6_setDitch_X6_isDitch
set_option maxRecDepth 20000 in
theorem ggX6_setDitch_X6_isGate : GoodIn wsX6_setDitch wsX6_isGate := goodIn_r _ [12, 7, 8, 5, 9] (by decide +kernel) (by decide +kernel)
set_option maxRecDepth 20000 in
theorem gX6_setDitch_X6_isGate : GoodIn wsX6_setDitch (va_wsS RX6 49 yX6_isGate wsX6_isGate) := goodIn_app (goodIn_of _ (by decide +kernel)) ggX6_setDitch_X6_isGate
set_option maxRecDepth 20000 in
theorem ggX6_setDitch_X6_puts : GoodIn wsX6_setDitch wsX6_puts := goodIn_r _ [16, 1, 17, 18, 19, 20, 21, 22, 23, 24, 25, 26, 27, 28] (by decide +kernel) (by decide +kernel)
set_option maxRecDepth 20000 in
theorem gX6_setDitch_X6_puts : GoodIn wsX6_setDitch (wsV RX6 57 RX6 yX6_puts wsX6_puts) := goodIn_app (goodIn_of _ (by decide +kernel)) ggX6_setDitch_X6_puts
theorem dX6_setDitch_0 : decode cX6_setDitch 0 = .ok (.aload_n 0, 1) := by decide +kernel
theorem dX6_setDitch_1 : decode cX6_setDitch 1 = .ok (.iload_n 1, 1) := by decide +kernel
theorem dX6_setDitch_2 : decode cX6_setDitch 2 = .ok (.invokevirtual 45, 3) := by decide +kernel
theorem dX6_setDitch_5 : decode cX6_setDitch 5 = .ok (.ifCond .ne 6, 3) := by decide +kernel
theorem dX6_setDitch_8 : decode cX6_setDitch 8 = .ok (.bipush (-101), 2) := by decide +kernel
theorem dX6_setDitch_10 : decode cX6_setDitch 10 = .ok (.ireturn, 1) := by decide +kernel
theorem dX6_setDitch_11 : decode cX6_setDitch 11 = .ok (.iload_n 2, 1) := by decide +kernel
theorem dX6_setDitch_12 : decode cX6_setDitch 12 = .ok (.iload_n 3, 1) := by decide +kernel
theorem dX6_setDitch_13 : decode cX6_setDitch 13 = .ok (.invokestatic 49, 3) := by decide +kernel
theorem dX6_setDitch_16 : decode cX6_setDitch 16 = .ok (.ifCond .ne 6, 3) := by decide +kernel
theorem dX6_setDitch_19 : decode cX6_setDitch 19 = .ok (.bipush (-102), 2) := by decide +kernel
theorem dX6_setDitch_21 : decode cX6_setDitch 21 = .ok (.ireturn, 1) := by decide +kernel
theorem dX6_setDitch_22 : decode cX6_setDitch 22 = .ok (.aload_n 0, 1) := by decide +kernel
theorem dX6_setDitch_23 : decode cX6_setDitch 23 = .ok (.getfield 7, 3) := by decide +kernel
theorem dX6_setDitch_26 : decode cX6_setDitch 26 = .ok (.bipush 60, 2) := by decide +kernel
theorem dX6_setDitch_28 : decode cX6_setDitch 28 = .ok (.iload_n 1, 1) := by decide +kernel
theorem dX6_setDitch_29 : decode cX6_setDitch 29 = .ok (.iadd, 1) := by decide +kernel
theorem dX6_setDitch_30 : decode cX6_setDitch 30 = .ok (.iload_n 3, 1) := by decide +kernel
theorem dX6_setDitch_31 : decode cX6_setDitch 31 = .ok (.iastore, 1) := by decide +kernel
theorem dX6_setDitch_32 : decode cX6_setDitch 32 = .ok (.aload_n 0, 1) := by decide +kernel
theorem dX6_setDitch_33 : decode cX6_setDitch 33 = .ok (.bipush 50, 2) := by decide +kernel
theorem dX6_setDitch_35 : decode cX6_setDitch 35 = .ok (.iload_n 1, 1) := by decide +kernel
theorem dX6_setDitch_36 : decode cX6_setDitch 36 = .ok (.iadd, 1) := by decide +kernel
theorem dX6_setDitch_37 : decode cX6_setDitch 37 = .ok (.iload_n 2, 1) := by decide +kernel
theorem dX6_setDitch_38 : decode cX6_setDitch 38 = .ok (.invokevirtual 57, 3) := by decide +kernel
theorem dX6_setDitch_41 : decode cX6_setDitch 41 = .ok (.ireturn, 1) := by decide +kernel
theorem dX6_addsUser_0 : decode cX6_addsUser 0 = .ok (.aload_n 0, 1) := by decide +kernel
theorem dX6_addsUser_1 : decode cX6_addsUser 1 = .ok (.getfield 7, 3) := by decide +kernel
theorem dX6_addsUser_4 : decode cX6_addsUser 4 = .ok (.iconst 2, 1) := by decide +kernel
theorem dX6_addsUser_5 : decode cX6_addsUser 5 = .ok (.iaload, 1) := by decide +kernel
theorem dX6_addsUser_6 : decode cX6_addsUser 6 = .ok (.istore 4, 2) := by decide +kernel
theorem dX6_addsUser_8 : decode cX6_addsUser 8 = .ok (.bipush 70, 2) := by decide +kernel
theorem dX6_addsUser_10 : decode cX6_addsUser 10 = .ok (.iload 4, 2) := by decide +kernel
theorem dX6_addsUser_12 : decode cX6_addsUser 12 = .ok (.iadd, 1) := by decide +kernel
theorem dX6_addsUser_13 : decode cX6_addsUser 13 = .ok (.istore 5, 2) := by decide +kernel
theorem dX6_addsUser_15 : decode cX6_addsUser 15 = .ok (.iload 5, 2) := by decide +kernel
theorem dX6_addsUser_17 : decode cX6_addsUser 17 = .ok (.sipush 214, 3) := by decide +kernel
theorem dX6_addsUser_20 : decode cX6_addsUser 20 = .ok (.if_icmp .ge 17, 3) := by decide +kernel
theorem dX6_addsUser_23 : decode cX6_addsUser 23 = .ok (.aload_n 0, 1) := by decide +kernel
theorem dX6_addsUser_24 : decode cX6_addsUser 24 = .ok (.getfield 7, 3) := by decide +kernel
theorem dX6_addsUser_27 : decode cX6_addsUser 27 = .ok (.iload 5, 2) := by decide +kernel
theorem dX6_addsUser_29 : decode cX6_addsUser 29 = .ok (.iconst 0, 1) := by decide +kernel
theorem dX6_addsUser_30 : decode cX6_addsUser 30 = .ok (.iastore, 1) := by decide +kernel
theorem dX6_addsUser_31 : decode cX6_addsUser 31 = .ok (.iinc 5 12, 3) := by decide +kernel
theorem dX6_addsUser_34 : decode cX6_addsUser 34 = .ok (.goto (-19), 3) := by decide +kernel
theorem dX6_addsUser_37 : decode cX6_addsUser 37 = .ok (.aload_n 0, 1) := by decide +kernel
theorem dX6_addsUser_38 : decode cX6_addsUser 38 = .ok (.getfield 7, 3) := by decide +kernel
theorem dX6_addsUser_41 : decode cX6_addsUser 41 = .ok (.bipush 70, 2) := by decide +kernel
theorem dX6_addsUser_43 : decode cX6_addsUser 43 = .ok (.iload 4, 2) := by decide +kernel
theorem dX6_addsUser_45 : decode cX6_addsUser 45 = .ok (.iadd, 1) := by decide +kernel
theorem dX6_addsUser_46 : decode cX6_addsUser 46 = .ok (.iload_n 1, 1) := by decide +kernel
theorem dX6_addsUser_47 : decode cX6_addsUser 47 = .ok (.iastore, 1) := by decide +kernel
theorem dX6_addsUser_48 : decode cX6_addsUser 48 = .ok (.aload_n 0, 1) := by decide +kernel
theorem dX6_addsUser_49 : decode cX6_addsUser 49 = .ok (.getfield 7, 3) := by decide +kernel
theorem dX6_addsUser_52 : decode cX6_addsUser 52 = .ok (.bipush 82, 2) := by decide +kernel
theorem dX6_addsUser_54 : decode cX6_addsUser 54 = .ok (.iload 4, 2) := by decide +kernel
theorem dX6_addsUser_56 : decode cX6_addsUser 56 = .ok (.iadd, 1) := by decide +kernel
theorem dX6_addsUser_57 : decode cX6_addsUser 57 = .ok (.iload_n 2, 1) := by decide +kernel
theorem dX6_addsUser_58 : decode cX6_addsUser 58 = .ok (.iastore, 1) := by decide +kernel
theorem dX6_addsUser_59 : decode cX6_addsUser 59 = .ok (.aload_n 0, 1) := by decide +kernel
theorem dX6_addsUser_60 : decode cX6_addsUser 60 = .ok (.getfield 7, 3) := by decide +kernel
theorem dX6_addsUser_63 : decode cX6_addsUser 63 = .ok (.bipush 94, 2) := by decide +kernel
theorem dX6_addsUser_65 : decode cX6_addsUser 65 = .ok (.iload 4, 2) := by decide +kernel
theorem dX6_addsUser_67 : decode cX6_addsUser 67 = .ok (.iadd, 1) := by decide +kernel
theorem dX6_addsUser_68 : decode cX6_addsUser 68 = .ok (.iload_n 3, 1) := by decide +kernel
theorem dX6_addsUser_69 : decode cX6_addsUser 69 = .ok (.iastore, 1) := by decide +kernel
theorem dX6_addsUser_70 : decode cX6_addsUser 70 = .ok (.aload_n 0, 1) := by decide +kernel
theorem dX6_addsUser_71 : decode cX6_addsUser 71 = .ok (.getfield 7, 3) := by decide +kernel
theorem dX6_addsUser_74 : decode cX6_addsUser 74 = .ok (.iconst 2, 1) := by decide +kernel
theorem dX6_addsUser_75 : decode cX6_addsUser 75 = .ok (.dup2, 1) := by decide +kernel
theorem dX6_addsUser_76 : decode cX6_addsUser 76 = .ok (.iaload, 1) := by decide +kernel
theorem dX6_addsUser_77 : decode cX6_addsUser 77 = .ok (.iconst 1, 1) := by decide +kernel
theorem dX6_addsUser_78 : decode cX6_addsUser 78 = .ok (.iadd, 1) := by decide +kernel
theorem dX6_addsUser_79 : decode cX6_addsUser 79 = .ok (.iastore, 1) := by decide +kernel
theorem dX6_addsUser_80 : decode cX6_addsUser 80 = .ok (.iload 4, 2) := by decide +kernel
theorem dX6_addsUser_82 : decode cX6_addsUser 82 = .ok (.ireturn, 1) := by decide +kernel
set_option maxRecDepth 20000 in
theorem ggX6_addUser_X6_isDitch : GoodIn wsX6_addUser wsX6_isDitch := goodIn_r _ [6, 1, 7, 8, 5, 9, 14, 15, 16, 17, 18, 19, 20, 21, 22, 23, 24, 25] (by decide +kernel) (by decide +kernel)
set_option maxRecDepth 20000 in
theorem gX6_addUser_X6_isDitch : GoodIn wsX6_addUser (wsV RX6 45 RX6 yX6_isDitch wsX6_isDitch) := goodIn_app (goodIn_of _ (by decide +kernel)) ggX6_addUser_X6_isDitch
set_option maxRecDepth 20000 in
theorem ggX6_addUser_X6_in : GoodIn wsX6_addUser wsX6_in := goodIn_r _ [9] (by decide +kernel) (by decide +kernel)
set_option maxRecDepth 20000 in
theorem gX6_addUser_X6_in : GoodIn wsX6_addUser (va_wsS RX6 41 yX6_in wsX6_in) := goodIn_app (goodIn_of _ (by decide +kernel)) ggX6_addUser_X6_in
set_option maxRecDepth 20000 in
theorem ggX6_addUser_X6_addsUser : GoodIn wsX6_addUser wsX6_addsUser := goodIn_r _ [13, 1, 14, 15, 16, 17, 18, 19, 20, 21, 22, 23, 24, 25] (by decide +kernel) (by decide +kernel)
set_option maxRecDepth 20000 in
theorem gX6_addUser_X6_addsUser : GoodIn wsX6_addUser (wsV RX6 61 RX6 yX6_addsUser wsX6_addsUser) := goodIn_app (goodIn_of _ (by decide +kernel)) ggX6_addUser_X6_addsUser
theorem dX6_addUser_0 : decode cX6_addUser 0 = .ok (.aload_n 0, 1) := by decide +kernel
theorem dX6_addUser_1 : decode cX6_addUser 1 = .ok (.iload_n 1, 1) := by decide +kernel
theorem dX6_addUser_2 : decode cX6_addUser 2 = .ok (.invokevirtual 45, 3) := by decide +kernel
theorem dX6_addUser_5 : decode cX6_addUser 5 = .ok (.ifCond .ne 6, 3) := by decide +kernel
theorem dX6_addUser_8 : decode cX6_addUser 8 = .ok (.bipush (-101), 2) := by decide +kernel
theorem dX6_addUser_10 : decode cX6_addUser 10 = .ok (.ireturn, 1) := by decide +kernel
theorem dX6_addUser_11 : decode cX6_addUser 11 = .ok (.iload_n 2, 1) := by decide +kernel
theorem dX6_addUser_12 : decode cX6_addUser 12 = .ok (.sipush 1800, 3) := by decide +kernel
theorem dX6_addUser_15 : decode cX6_addUser 15 = .ok (.sipush 2099, 3) := by decide +kernel
theorem dX6_addUser_18 : decode cX6_addUser 18 = .ok (.invokestatic 41, 3) := by decide +kernel
theorem dX6_addUser_21 : decode cX6_addUser 21 = .ok (.ifCond .eq 13, 3) := by decide +kernel
theorem dX6_addUser_24 : decode cX6_addUser 24 = .ok (.iload_n 3, 1) := by decide +kernel
theorem dX6_addUser_25 : decode cX6_addUser 25 = .ok (.iconst 0, 1) := by decide +kernel
theorem dX6_addUser_26 : decode cX6_addUser 26 = .ok (.bipush 60, 2) := by decide +kernel
theorem dX6_addUser_28 : decode cX6_addUser 28 = .ok (.invokestatic 41, 3) := by decide +kernel
theorem dX6_addUser_31 : decode cX6_addUser 31 = .ok (.ifCond .ne 6, 3) := by decide +kernel
theorem dX6_addUser_34 : decode cX6_addUser 34 = .ok (.bipush (-102), 2) := by decide +kernel
theorem dX6_addUser_36 : decode cX6_addUser 36 = .ok (.ireturn, 1) := by decide +kernel
theorem dX6_addUser_37 : decode cX6_addUser 37 = .ok (.aload_n 0, 1) := by decide +kernel
theorem dX6_addUser_38 : decode cX6_addUser 38 = .ok (.getfield 7, 3) := by decide +kernel
theorem dX6_addUser_41 : decode cX6_addUser 41 = .ok (.iconst 2, 1) := by decide +kernel
theorem dX6_addUser_42 : decode cX6_addUser 42 = .ok (.iaload, 1) := by decide +kernel
theorem dX6_addUser_43 : decode cX6_addUser 43 = .ok (.bipush 12, 2) := by decide +kernel
theorem dX6_addUser_45 : decode cX6_addUser 45 = .ok (.if_icmp .ne 8, 3) := by decide +kernel
theorem dX6_addUser_48 : decode cX6_addUser 48 = .ok (.bipush (-104), 2) := by decide +kernel
theorem dX6_addUser_50 : decode cX6_addUser 50 = .ok (.goto 10, 3) := by decide +kernel
theorem dX6_addUser_53 : decode cX6_addUser 53 = .ok (.aload_n 0, 1) := by decide +kernel
theorem dX6_addUser_54 : decode cX6_addUser 54 = .ok (.iload_n 1, 1) := by decide +kernel
theorem dX6_addUser_55 : decode cX6_addUser 55 = .ok (.iload_n 2, 1) := by decide +kernel
theorem dX6_addUser_56 : decode cX6_addUser 56 = .ok (.iload_n 3, 1) := by decide +kernel
theorem dX6_addUser_57 : decode cX6_addUser 57 = .ok (.invokevirtual 61, 3) := by decide +kernel
theorem dX6_addUser_60 : decode cX6_addUser 60 = .ok (.ireturn, 1) := by decide +kernel
set_option maxRecDepth 20000 in
theorem ggX6_setField_X6_isUser : GoodIn wsX6_setField wsX6_isUser := goodIn_r _ [6, 1, 7, 8, 5, 9, 14, 15, 16, 17, 18, 19, 20, 21, 22, 23, 24, 25] (by decide +kernel) (by decide +kernel)
set_option maxRecDepth 20000 in
theorem gX6_setField_X6_isUser : GoodIn wsX6_setField (wsV RX6 64 RX6 yX6_isUser wsX6_isUser) := goodIn_app (goodIn_of _ (by decide +kernel)) ggX6_setField_X6_isUser
set_option maxRecDepth 20000 in
theorem ggX6_setField_X6_in : GoodIn wsX6_setField wsX6_in := goodIn_r _ [9] (by decide +kernel) (by decide +kernel)
set_option maxRecDepth 20000 in
theorem gX6_setField_X6_in : GoodIn wsX6_setField (va_wsS RX6 41 yX6_in wsX6_in) := goodIn_app (goodIn_of _ (by decide +kernel)) ggX6_setField_X6_in
set_option maxRecDepth 20000 in
theorem ggX6_setField_X6_puts : GoodIn wsX6_setField wsX6_puts := goodIn_r _ [13, 1, 14, 15, 16, 17, 18, 19, 20, 21, 22, 23, 24, 25] (by decide +kernel) (by decide +kernel)
set_option maxRecDepth 20000 in
theorem gX6_setField_X6_puts : GoodIn wsX6_setField (wsV RX6 57 RX6 yX6_puts wsX6_puts) := goodIn_app (goodIn_of _ (by decide +kernel)) ggX6_setField_X6_puts
theorem dX6_setField_0 : decode cX6_setField 0 = .ok (.aload_n 0, 1) := by decide +kernel
theorem dX6_setField_1 : decode cX6_setField 1 = .ok (.iload_n 1, 1) := by decide +kernel
theorem dX6_setField_2 : decode cX6_setField 2 = .ok (.invokevirtual 64, 3) := by decide +kernel
theorem dX6_setField_5 : decode cX6_setField 5 = .ok (.ifCond .ne 6, 3) := by decide +kernel
theorem dX6_setField_8 : decode cX6_setField 8 = .ok (.bipush (-101), 2) := by decide +kernel
theorem dX6_setField_10 : decode cX6_setField 10 = .ok (.ireturn, 1) := by decide +kernel
theorem dX6_setField_11 : decode cX6_setField 11 = .ok (.iload_n 2, 1) := by decide +kernel
theorem dX6_setField_12 : decode cX6_setField 12 = .ok (.iconst 0, 1) := by decide +kernel
theorem dX6_setField_13 : decode cX6_setField 13 = .ok (.bipush 60, 2) := by decide +kernel
theorem dX6_setField_15 : decode cX6_setField 15 = .ok (.invokestatic 41, 3) := by decide +kernel
theorem dX6_setField_18 : decode cX6_setField 18 = .ok (.ifCond .eq 26, 3) := by decide +kernel
theorem dX6_setField_21 : decode cX6_setField 21 = .ok (.iload_n 3, 1) := by decide +kernel
theorem dX6_setField_22 : decode cX6_setField 22 = .ok (.iconst 0, 1) := by decide +kernel
theorem dX6_setField_23 : decode cX6_setField 23 = .ok (.bipush 23, 2) := by decide +kernel
theorem dX6_setField_25 : decode cX6_setField 25 = .ok (.invokestatic 41, 3) := by decide +kernel
theorem dX6_setField_28 : decode cX6_setField 28 = .ok (.ifCond .eq 16, 3) := by decide +kernel
theorem dX6_setField_31 : decode cX6_setField 31 = .ok (.iload 4, 2) := by decide +kernel
theorem dX6_setField_33 : decode cX6_setField 33 = .ok (.iload_n 3, 1) := by decide +kernel
theorem dX6_setField_34 : decode cX6_setField 34 = .ok (.iconst 1, 1) := by decide +kernel
theorem dX6_setField_35 : decode cX6_setField 35 = .ok (.iadd, 1) := by decide +kernel
theorem dX6_setField_36 : decode cX6_setField 36 = .ok (.bipush 24, 2) := by decide +kernel
theorem dX6_setField_38 : decode cX6_setField 38 = .ok (.invokestatic 41, 3) := by decide +kernel
theorem dX6_setField_41 : decode cX6_setField 41 = .ok (.ifCond .ne 6, 3) := by decide +kernel
theorem dX6_setField_44 : decode cX6_setField 44 = .ok (.bipush (-102), 2) := by decide +kernel
theorem dX6_setField_46 : decode cX6_setField 46 = .ok (.ireturn, 1) := by decide +kernel
theorem dX6_setField_47 : decode cX6_setField 47 = .ok (.aload_n 0, 1) := by decide +kernel
theorem dX6_setField_48 : decode cX6_setField 48 = .ok (.getfield 7, 3) := by decide +kernel
theorem dX6_setField_51 : decode cX6_setField 51 = .ok (.bipush 118, 2) := by decide +kernel
theorem dX6_setField_53 : decode cX6_setField 53 = .ok (.iload_n 1, 1) := by decide +kernel
theorem dX6_setField_54 : decode cX6_setField 54 = .ok (.iadd, 1) := by decide +kernel
theorem dX6_setField_55 : decode cX6_setField 55 = .ok (.iload_n 3, 1) := by decide +kernel
theorem dX6_setField_56 : decode cX6_setField 56 = .ok (.iastore, 1) := by decide +kernel
theorem dX6_setField_57 : decode cX6_setField 57 = .ok (.aload_n 0, 1) := by decide +kernel
theorem dX6_setField_58 : decode cX6_setField 58 = .ok (.getfield 7, 3) := by decide +kernel
theorem dX6_setField_61 : decode cX6_setField 61 = .ok (.sipush 130, 3) := by decide +kernel
theorem dX6_setField_64 : decode cX6_setField 64 = .ok (.iload_n 1, 1) := by decide +kernel
theorem dX6_setField_65 : decode cX6_setField 65 = .ok (.iadd, 1) := by decide +kernel
theorem dX6_setField_66 : decode cX6_setField 66 = .ok (.iload 4, 2) := by decide +kernel
theorem dX6_setField_68 : decode cX6_setField 68 = .ok (.iastore, 1) := by decide +kernel
theorem dX6_setField_69 : decode cX6_setField 69 = .ok (.aload_n 0, 1) := by decide +kernel
theorem dX6_setField_70 : decode cX6_setField 70 = .ok (.bipush 106, 2) := by decide +kernel
theorem dX6_setField_72 : decode cX6_setField 72 = .ok (.iload_n 1, 1) := by decide +kernel
theorem dX6_setField_73 : decode cX6_setField 73 = .ok (.iadd, 1) := by decide +kernel
theorem dX6_setField_74 : decode cX6_setField 74 = .ok (.iload_n 2, 1) := by decide +kernel
theorem dX6_setField_75 : decode cX6_setField 75 = .ok (.invokevirtual 57, 3) := by decide +kernel
theorem dX6_setField_78 : decode cX6_setField 78 = .ok (.ireturn, 1) := by decide +kernel
set_option maxRecDepth 20000 in
theorem ggX6_setPond_X6_isUser : GoodIn wsX6_setPond wsX6_isUser := goodIn_r _ [6, 1, 7, 8, 5, 9, 13, 14, 15, 16, 17, 18, 19, 20, 21, 22, 23, 24] (by decide +kernel) (by decide +kernel)
set_option maxRecDepth 20000 in
theorem gX6_setPond_X6_isUser : GoodIn wsX6_setPond (wsV RX6 64 RX6 yX6_isUser wsX6_isUser) := goodIn_app (goodIn_of _ (by decide +kernel)) ggX6_setPond_X6_isUser
set_option maxRecDepth 20000 in
theorem ggX6_setPond_X6_in : GoodIn wsX6_setPond wsX6_in := goodIn_r _ [9] (by decide +kernel) (by decide +kernel)
set_option maxRecDepth 20000 in
theorem gX6_setPond_X6_in : GoodIn wsX6_setPond (va_wsS RX6 41 yX6_in wsX6_in) := goodIn_app (goodIn_of _ (by decide +kernel)) ggX6_setPond_X6_in
set_option maxRecDepth 20000 in
theorem ggX6_setPond_X6_least : GoodIn wsX6_setPond wsX6_least := goodIn_r _ [12] (by decide +kernel) (by decide +kernel)
set_option maxRecDepth 20000 in
theorem gX6_setPond_X6_least : GoodIn wsX6_setPond (va_wsS RX6 67 yX6_least wsX6_least) := goodIn_app (goodIn_of _ (by decide +kernel)) ggX6_setPond_X6_least
theorem dX6_setPond_0 : decode cX6_setPond 0 = .ok (.aload_n 0, 1) := by decide +kernel
theorem dX6_setPond_1 : decode cX6_setPond 1 = .ok (.iload_n 1, 1) := by decide +kernel
theorem dX6_setPond_2 : decode cX6_setPond 2 = .ok (.invokevirtual 64, 3) := by decide +kernel
theorem dX6_setPond_5 : decode cX6_setPond 5 = .ok (.ifCond .ne 6, 3) := by decide +kernel
theorem dX6_setPond_8 : decode cX6_setPond 8 = .ok (.bipush (-101), 2) := by decide +kernel
theorem dX6_setPond_10 : decode cX6_setPond 10 = .ok (.ireturn, 1) := by decide +kernel
theorem dX6_setPond_11 : decode cX6_setPond 11 = .ok (.iload_n 2, 1) := by decide +kernel
theorem dX6_setPond_12 : decode cX6_setPond 12 = .ok (.iconst 0, 1) := by decide +kernel
theorem dX6_setPond_13 : decode cX6_setPond 13 = .ok (.sipush 500, 3) := by decide +kernel
theorem dX6_setPond_16 : decode cX6_setPond 16 = .ok (.invokestatic 41, 3) := by decide +kernel
theorem dX6_setPond_19 : decode cX6_setPond 19 = .ok (.ifCond .eq 13, 3) := by decide +kernel
theorem dX6_setPond_22 : decode cX6_setPond 22 = .ok (.iload_n 3, 1) := by decide +kernel
theorem dX6_setPond_23 : decode cX6_setPond 23 = .ok (.iconst 0, 1) := by decide +kernel
theorem dX6_setPond_24 : decode cX6_setPond 24 = .ok (.bipush 20, 2) := by decide +kernel
theorem dX6_setPond_26 : decode cX6_setPond 26 = .ok (.invokestatic 41, 3) := by decide +kernel
theorem dX6_setPond_29 : decode cX6_setPond 29 = .ok (.ifCond .ne 6, 3) := by decide +kernel
theorem dX6_setPond_32 : decode cX6_setPond 32 = .ok (.bipush (-102), 2) := by decide +kernel
theorem dX6_setPond_34 : decode cX6_setPond 34 = .ok (.ireturn, 1) := by decide +kernel
theorem dX6_setPond_35 : decode cX6_setPond 35 = .ok (.aload_n 0, 1) := by decide +kernel
theorem dX6_setPond_36 : decode cX6_setPond 36 = .ok (.getfield 7, 3) := by decide +kernel
theorem dX6_setPond_39 : decode cX6_setPond 39 = .ok (.sipush 142, 3) := by decide +kernel
theorem dX6_setPond_42 : decode cX6_setPond 42 = .ok (.iload_n 1, 1) := by decide +kernel
theorem dX6_setPond_43 : decode cX6_setPond 43 = .ok (.iadd, 1) := by decide +kernel
theorem dX6_setPond_44 : decode cX6_setPond 44 = .ok (.iload_n 2, 1) := by decide +kernel
theorem dX6_setPond_45 : decode cX6_setPond 45 = .ok (.iastore, 1) := by decide +kernel
theorem dX6_setPond_46 : decode cX6_setPond 46 = .ok (.aload_n 0, 1) := by decide +kernel
theorem dX6_setPond_47 : decode cX6_setPond 47 = .ok (.getfield 7, 3) := by decide +kernel
theorem dX6_setPond_50 : decode cX6_setPond 50 = .ok (.sipush 166, 3) := by decide +kernel
theorem dX6_setPond_53 : decode cX6_setPond 53 = .ok (.iload_n 1, 1) := by decide +kernel
theorem dX6_setPond_54 : decode cX6_setPond 54 = .ok (.iadd, 1) := by decide +kernel
theorem dX6_setPond_55 : decode cX6_setPond 55 = .ok (.iload_n 3, 1) := by decide +kernel
theorem dX6_setPond_56 : decode cX6_setPond 56 = .ok (.iastore, 1) := by decide +kernel
theorem dX6_setPond_57 : decode cX6_setPond 57 = .ok (.aload_n 0, 1) := by decide +kernel
theorem dX6_setPond_58 : decode cX6_setPond 58 = .ok (.getfield 7, 3) := by decide +kernel
theorem dX6_setPond_61 : decode cX6_setPond 61 = .ok (.sipush 154, 3) := by decide +kernel
theorem dX6_setPond_64 : decode cX6_setPond 64 = .ok (.iload_n 1, 1) := by decide +kernel
theorem dX6_setPond_65 : decode cX6_setPond 65 = .ok (.iadd, 1) := by decide +kernel
theorem dX6_setPond_66 : decode cX6_setPond 66 = .ok (.aload_n 0, 1) := by decide +kernel
theorem dX6_setPond_67 : decode cX6_setPond 67 = .ok (.getfield 7, 3) := by decide +kernel
theorem dX6_setPond_70 : decode cX6_setPond 70 = .ok (.sipush 154, 3) := by decide +kernel
theorem dX6_setPond_73 : decode cX6_setPond 73 = .ok (.iload_n 1, 1) := by decide +kernel
theorem dX6_setPond_74 : decode cX6_setPond 74 = .ok (.iadd, 1) := by decide +kernel
theorem dX6_setPond_75 : decode cX6_setPond 75 = .ok (.iaload, 1) := by decide +kernel
theorem dX6_setPond_76 : decode cX6_setPond 76 = .ok (.iload_n 2, 1) := by decide +kernel
theorem dX6_setPond_77 : decode cX6_setPond 77 = .ok (.invokestatic 67, 3) := by decide +kernel
theorem dX6_setPond_80 : decode cX6_setPond 80 = .ok (.iastore, 1) := by decide +kernel
theorem dX6_setPond_81 : decode cX6_setPond 81 = .ok (.aload_n 0, 1) := by decide +kernel
theorem dX6_setPond_82 : decode cX6_setPond 82 = .ok (.getfield 7, 3) := by decide +kernel
theorem dX6_setPond_85 : decode cX6_setPond 85 = .ok (.sipush 154, 3) := by decide +kernel
theorem dX6_setPond_88 : decode cX6_setPond 88 = .ok (.iload_n 1, 1) := by decide +kernel
theorem dX6_setPond_89 : decode cX6_setPond 89 = .ok (.iadd, 1) := by decide +kernel
theorem dX6_setPond_90 : decode cX6_setPond 90 = .ok (.iaload, 1) := by decide +kernel
theorem dX6_setPond_91 : decode cX6_setPond 91 = .ok (.ireturn, 1) := by decide +kernel
set_option maxRecDepth 20000 in
theorem ggX6_setTurn_X6_isUser : GoodIn wsX6_setTurn wsX6_isUser := goodIn_r _ [5, 6, 7, 8, 4, 9, 14, 15, 16, 17, 18, 19, 20, 21, 22, 23, 24, 25] (by decide +kernel) (by decide +kernel)
set_option maxRecDepth 20000 in
theorem gX6_setTurn_X6_isUser : GoodIn wsX6_setTurn (wsV RX6 64 RX6 yX6_isUser wsX6_isUser) := goodIn_app (goodIn_of _ (by decide +kernel)) ggX6_setTurn_X6_isUser
set_option maxRecDepth 20000 in
theorem ggX6_setTurn_X6_in : GoodIn wsX6_setTurn wsX6_in := goodIn_r _ [9] (by decide +kernel) (by decide +kernel)
set_option maxRecDepth 20000 in
theorem gX6_setTurn_X6_in : GoodIn wsX6_setTurn (va_wsS RX6 41 yX6_in wsX6_in) := goodIn_app (goodIn_of _ (by decide +kernel)) ggX6_setTurn_X6_in
set_option maxRecDepth 20000 in
theorem ggX6_setTurn_X6_puts : GoodIn wsX6_setTurn wsX6_puts := goodIn_r _ [13, 6, 14, 15, 16, 17, 18, 19, 20, 21, 22, 23, 24, 25] (by decide +kernel) (by decide +kernel)
set_option maxRecDepth 20000 in
theorem gX6_setTurn_X6_puts : GoodIn wsX6_setTurn (wsV RX6 57 RX6 yX6_puts wsX6_puts) := goodIn_app (goodIn_of _ (by decide +kernel)) ggX6_setTurn_X6_puts
theorem dX6_setTurn_0 : decode cX6_setTurn 0 = .ok (.aload_n 0, 1) := by decide +kernel
theorem dX6_setTurn_1 : decode cX6_setTurn 1 = .ok (.iload_n 1, 1) := by decide +kernel
theorem dX6_setTurn_2 : decode cX6_setTurn 2 = .ok (.invokevirtual 64, 3) := by decide +kernel
theorem dX6_setTurn_5 : decode cX6_setTurn 5 = .ok (.ifCond .ne 6, 3) := by decide +kernel
theorem dX6_setTurn_8 : decode cX6_setTurn 8 = .ok (.bipush (-101), 2) := by decide +kernel
theorem dX6_setTurn_10 : decode cX6_setTurn 10 = .ok (.ireturn, 1) := by decide +kernel
theorem dX6_setTurn_11 : decode cX6_setTurn 11 = .ok (.iload_n 2, 1) := by decide +kernel
theorem dX6_setTurn_12 : decode cX6_setTurn 12 = .ok (.iconst 0, 1) := by decide +kernel
theorem dX6_setTurn_13 : decode cX6_setTurn 13 = .ok (.bipush 24, 2) := by decide +kernel
theorem dX6_setTurn_15 : decode cX6_setTurn 15 = .ok (.invokestatic 41, 3) := by decide +kernel
theorem dX6_setTurn_18 : decode cX6_setTurn 18 = .ok (.ifCond .eq 16, 3) := by decide +kernel
theorem dX6_setTurn_21 : decode cX6_setTurn 21 = .ok (.aload_n 0, 1) := by decide +kernel
theorem dX6_setTurn_22 : decode cX6_setTurn 22 = .ok (.sipush 178, 3) := by decide +kernel
theorem dX6_setTurn_25 : decode cX6_setTurn 25 = .ok (.iload_n 1, 1) := by decide +kernel
theorem dX6_setTurn_26 : decode cX6_setTurn 26 = .ok (.iadd, 1) := by decide +kernel
theorem dX6_setTurn_27 : decode cX6_setTurn 27 = .ok (.iload_n 2, 1) := by decide +kernel
theorem dX6_setTurn_28 : decode cX6_setTurn 28 = .ok (.invokevirtual 57, 3) := by decide +kernel
theorem dX6_setTurn_31 : decode cX6_setTurn 31 = .ok (.goto 5, 3) := by decide +kernel
theorem dX6_setTurn_34 : decode cX6_setTurn 34 = .ok (.bipush (-102), 2) := by decide +kernel
theorem dX6_setTurn_36 : decode cX6_setTurn 36 = .ok (.ireturn, 1) := by decide +kernel
theorem dX6_supplies_0 : decode cX6_supplies 0 = .ok (.aload_n 0, 1) := by decide +kernel
theorem dX6_supplies_1 : decode cX6_supplies 1 = .ok (.getfield 7, 3) := by decide +kernel
theorem dX6_supplies_4 : decode cX6_supplies 4 = .ok (.bipush 12, 2) := by decide +kernel
theorem dX6_supplies_6 : decode cX6_supplies 6 = .ok (.iload_n 1, 1) := by decide +kernel
theorem dX6_supplies_7 : decode cX6_supplies 7 = .ok (.iadd, 1) := by decide +kernel
theorem dX6_supplies_8 : decode cX6_supplies 8 = .ok (.iaload, 1) := by decide +kernel
theorem dX6_supplies_9 : decode cX6_supplies 9 = .ok (.istore 4, 2) := by decide +kernel
theorem dX6_supplies_11 : decode cX6_supplies 11 = .ok (.iload_n 1, 1) := by decide +kernel
theorem dX6_supplies_12 : decode cX6_supplies 12 = .ok (.istore 5, 2) := by decide +kernel
theorem dX6_supplies_14 : decode cX6_supplies 14 = .ok (.iload 5, 2) := by decide +kernel
theorem dX6_supplies_16 : decode cX6_supplies 16 = .ok (.iload_n 2, 1) := by decide +kernel
theorem dX6_supplies_17 : decode cX6_supplies 17 = .ok (.if_icmp .ge 20, 3) := by decide +kernel
theorem dX6_supplies_20 : decode cX6_supplies 20 = .ok (.aload_n 0, 1) := by decide +kernel
theorem dX6_supplies_21 : decode cX6_supplies 21 = .ok (.getfield 7, 3) := by decide +kernel
theorem dX6_supplies_24 : decode cX6_supplies 24 = .ok (.bipush 12, 2) := by decide +kernel
theorem dX6_supplies_26 : decode cX6_supplies 26 = .ok (.iload 5, 2) := by decide +kernel
theorem dX6_supplies_28 : decode cX6_supplies 28 = .ok (.iadd, 1) := by decide +kernel
theorem dX6_supplies_29 : decode cX6_supplies 29 = .ok (.iload_n 3, 1) := by decide +kernel
theorem dX6_supplies_30 : decode cX6_supplies 30 = .ok (.iastore, 1) := by decide +kernel
theorem dX6_supplies_31 : decode cX6_supplies 31 = .ok (.iinc 5 1, 3) := by decide +kernel
theorem dX6_supplies_34 : decode cX6_supplies 34 = .ok (.goto (-20), 3) := by decide +kernel
theorem dX6_supplies_37 : decode cX6_supplies 37 = .ok (.iload 4, 2) := by decide +kernel
theorem dX6_supplies_39 : decode cX6_supplies 39 = .ok (.ireturn, 1) := by decide +kernel
set_option maxRecDepth 20000 in
theorem ggX6_setSupply_X6_in : GoodIn wsX6_setSupply wsX6_in := goodIn_r _ [4] (by decide +kernel) (by decide +kernel)
set_option maxRecDepth 20000 in
theorem gX6_setSupply_X6_in : GoodIn wsX6_setSupply (va_wsS RX6 41 yX6_in wsX6_in) := goodIn_app (goodIn_of _ (by decide +kernel)) ggX6_setSupply_X6_in
set_option maxRecDepth 20000 in
theorem ggX6_setSupply_X6_supplies : GoodIn wsX6_setSupply wsX6_supplies := goodIn_r _ [8, 9, 10, 11, 12, 13, 14, 15, 16, 17, 18, 19, 20, 21] (by decide +kernel) (by decide +kernel)
set_option maxRecDepth 20000 in
theorem gX6_setSupply_X6_supplies : GoodIn wsX6_setSupply (wsV RX6 70 RX6 yX6_supplies wsX6_supplies) := goodIn_app (goodIn_of _ (by decide +kernel)) ggX6_setSupply_X6_supplies
theorem dX6_setSupply_0 : decode cX6_setSupply 0 = .ok (.iload_n 1, 1) := by decide +kernel
theorem dX6_setSupply_1 : decode cX6_setSupply 1 = .ok (.iconst 0, 1) := by decide +kernel
theorem dX6_setSupply_2 : decode cX6_setSupply 2 = .ok (.bipush 23, 2) := by decide +kernel
theorem dX6_setSupply_4 : decode cX6_setSupply 4 = .ok (.invokestatic 41, 3) := by decide +kernel
theorem dX6_setSupply_7 : decode cX6_setSupply 7 = .ok (.ifCond .eq 26, 3) := by decide +kernel
theorem dX6_setSupply_10 : decode cX6_setSupply 10 = .ok (.iload_n 2, 1) := by decide +kernel
theorem dX6_setSupply_11 : decode cX6_setSupply 11 = .ok (.iload_n 1, 1) := by decide +kernel
theorem dX6_setSupply_12 : decode cX6_setSupply 12 = .ok (.iconst 1, 1) := by decide +kernel
theorem dX6_setSupply_13 : decode cX6_setSupply 13 = .ok (.iadd, 1) := by decide +kernel
theorem dX6_setSupply_14 : decode cX6_setSupply 14 = .ok (.bipush 24, 2) := by decide +kernel
theorem dX6_setSupply_16 : decode cX6_setSupply 16 = .ok (.invokestatic 41, 3) := by decide +kernel
theorem dX6_setSupply_19 : decode cX6_setSupply 19 = .ok (.ifCond .eq 14, 3) := by decide +kernel
theorem dX6_setSupply_22 : decode cX6_setSupply 22 = .ok (.iload_n 3, 1) := by decide +kernel
theorem dX6_setSupply_23 : decode cX6_setSupply 23 = .ok (.iconst 0, 1) := by decide +kernel
theorem dX6_setSupply_24 : decode cX6_setSupply 24 = .ok (.sipush 200, 3) := by decide +kernel
theorem dX6_setSupply_27 : decode cX6_setSupply 27 = .ok (.invokestatic 41, 3) := by decide +kernel
theorem dX6_setSupply_30 : decode cX6_setSupply 30 = .ok (.ifCond .ne 6, 3) := by decide +kernel
theorem dX6_setSupply_33 : decode cX6_setSupply 33 = .ok (.bipush (-102), 2) := by decide +kernel
theorem dX6_setSupply_35 : decode cX6_setSupply 35 = .ok (.ireturn, 1) := by decide +kernel
theorem dX6_setSupply_36 : decode cX6_setSupply 36 = .ok (.aload_n 0, 1) := by decide +kernel
theorem dX6_setSupply_37 : decode cX6_setSupply 37 = .ok (.iload_n 1, 1) := by decide +kernel
theorem dX6_setSupply_38 : decode cX6_setSupply 38 = .ok (.iload_n 2, 1) := by decide +kernel
theorem dX6_setSupply_39 : decode cX6_setSupply 39 = .ok (.iload_n 3, 1) := by decide +kernel
theorem dX6_setSupply_40 : decode cX6_setSupply 40 = .ok (.invokevirtual 70, 3) := by decide +kernel
theorem dX6_setSupply_43 : decode cX6_setSupply 43 = .ok (.ireturn, 1) := by decide +kernel
set_option maxRecDepth 20000 in
theorem ggX6_setRule_X6_in : GoodIn wsX6_setRule wsX6_in := goodIn_r _ [4] (by decide +kernel) (by decide +kernel)
set_option maxRecDepth 20000 in
theorem gX6_setRule_X6_in : GoodIn wsX6_setRule (va_wsS RX6 41 yX6_in wsX6_in) := goodIn_app (goodIn_of _ (by decide +kernel)) ggX6_setRule_X6_in
set_option maxRecDepth 20000 in
theorem ggX6_setRule_X6_puts : GoodIn wsX6_setRule wsX6_puts := goodIn_r _ [8, 9, 10, 11, 12, 13, 14, 15, 16, 17, 18, 19, 20, 21] (by decide +kernel) (by decide +kernel)
set_option maxRecDepth 20000 in
theorem gX6_setRule_X6_puts : GoodIn wsX6_setRule (wsV RX6 57 RX6 yX6_puts wsX6_puts) := goodIn_app (goodIn_of _ (by decide +kernel)) ggX6_setRule_X6_puts
theorem dX6_setRule_0 : decode cX6_setRule 0 = .ok (.iload_n 1, 1) := by decide +kernel
theorem dX6_setRule_1 : decode cX6_setRule 1 = .ok (.iconst 0, 1) := by decide +kernel
theorem dX6_setRule_2 : decode cX6_setRule 2 = .ok (.iconst 2, 1) := by decide +kernel
theorem dX6_setRule_3 : decode cX6_setRule 3 = .ok (.invokestatic 41, 3) := by decide +kernel
theorem dX6_setRule_6 : decode cX6_setRule 6 = .ok (.ifCond .eq 12, 3) := by decide +kernel
theorem dX6_setRule_9 : decode cX6_setRule 9 = .ok (.aload_n 0, 1) := by decide +kernel
theorem dX6_setRule_10 : decode cX6_setRule 10 = .ok (.iconst 3, 1) := by decide +kernel
theorem dX6_setRule_11 : decode cX6_setRule 11 = .ok (.iload_n 1, 1) := by decide +kernel
theorem dX6_setRule_12 : decode cX6_setRule 12 = .ok (.invokevirtual 57, 3) := by decide +kernel
theorem dX6_setRule_15 : decode cX6_setRule 15 = .ok (.goto 5, 3) := by decide +kernel
theorem dX6_setRule_18 : decode cX6_setRule 18 = .ok (.bipush (-102), 2) := by decide +kernel
theorem dX6_setRule_20 : decode cX6_setRule 20 = .ok (.ireturn, 1) := by decide +kernel
set_option maxRecDepth 20000 in
theorem ggX6_setFutile_X6_in : GoodIn wsX6_setFutile wsX6_in := goodIn_r _ [4] (by decide +kernel) (by decide +kernel)
set_option maxRecDepth 20000 in
theorem gX6_setFutile_X6_in : GoodIn wsX6_setFutile (va_wsS RX6 41 yX6_in wsX6_in) := goodIn_app (goodIn_of _ (by decide +kernel)) ggX6_setFutile_X6_in
set_option maxRecDepth 20000 in
theorem ggX6_setFutile_X6_puts : GoodIn wsX6_setFutile wsX6_puts := goodIn_r _ [8, 9, 10, 11, 12, 13, 14, 15, 16, 17, 18, 19, 20, 21] (by decide +kernel) (by decide +kernel)
set_option maxRecDepth 20000 in
theorem gX6_setFutile_X6_puts : GoodIn wsX6_setFutile (wsV RX6 57 RX6 yX6_puts wsX6_puts) := goodIn_app (goodIn_of _ (by decide +kernel)) ggX6_setFutile_X6_puts
theorem dX6_setFutile_0 : decode cX6_setFutile 0 = .ok (.iload_n 1, 1) := by decide +kernel
theorem dX6_setFutile_1 : decode cX6_setFutile 1 = .ok (.iconst 0, 1) := by decide +kernel
theorem dX6_setFutile_2 : decode cX6_setFutile 2 = .ok (.bipush 100, 2) := by decide +kernel
theorem dX6_setFutile_4 : decode cX6_setFutile 4 = .ok (.invokestatic 41, 3) := by decide +kernel
theorem dX6_setFutile_7 : decode cX6_setFutile 7 = .ok (.ifCond .eq 12, 3) := by decide +kernel
theorem dX6_setFutile_10 : decode cX6_setFutile 10 = .ok (.aload_n 0, 1) := by decide +kernel
theorem dX6_setFutile_11 : decode cX6_setFutile 11 = .ok (.iconst 4, 1) := by decide +kernel
theorem dX6_setFutile_12 : decode cX6_setFutile 12 = .ok (.iload_n 1, 1) := by decide +kernel
theorem dX6_setFutile_13 : decode cX6_setFutile 13 = .ok (.invokevirtual 57, 3) := by decide +kernel
theorem dX6_setFutile_16 : decode cX6_setFutile 16 = .ok (.goto 5, 3) := by decide +kernel
theorem dX6_setFutile_19 : decode cX6_setFutile 19 = .ok (.bipush (-102), 2) := by decide +kernel
theorem dX6_setFutile_21 : decode cX6_setFutile 21 = .ok (.ireturn, 1) := by decide +kernel
theorem dX6_ditches_0 : decode cX6_ditches 0 = .ok (.aload_n 0, 1) := by decide +kernel
theorem dX6_ditches_1 : decode cX6_ditches 1 = .ok (.getfield 7, 3) := by decide +kernel
theorem dX6_ditches_4 : decode cX6_ditches 4 = .ok (.iconst 1, 1) := by decide +kernel
theorem dX6_ditches_5 : decode cX6_ditches 5 = .ok (.iaload, 1) := by decide +kernel
theorem dX6_ditches_6 : decode cX6_ditches 6 = .ok (.ireturn, 1) := by decide +kernel
theorem dX6_users_0 : decode cX6_users 0 = .ok (.aload_n 0, 1) := by decide +kernel
theorem dX6_users_1 : decode cX6_users 1 = .ok (.getfield 7, 3) := by decide +kernel
theorem dX6_users_4 : decode cX6_users 4 = .ok (.iconst 2, 1) := by decide +kernel
theorem dX6_users_5 : decode cX6_users 5 = .ok (.iaload, 1) := by decide +kernel
theorem dX6_users_6 : decode cX6_users 6 = .ok (.ireturn, 1) := by decide +kernel
theorem dX6_isOlder_0 : decode cX6_isOlder 0 = .ok (.aload_n 0, 1) := by decide +kernel
theorem dX6_isOlder_1 : decode cX6_isOlder 1 = .ok (.getfield 7, 3) := by decide +kernel
theorem dX6_isOlder_4 : decode cX6_isOlder 4 = .ok (.bipush 82, 2) := by decide +kernel
theorem dX6_isOlder_6 : decode cX6_isOlder 6 = .ok (.iload_n 1, 1) := by decide +kernel
theorem dX6_isOlder_7 : decode cX6_isOlder 7 = .ok (.iadd, 1) := by decide +kernel
theorem dX6_isOlder_8 : decode cX6_isOlder 8 = .ok (.iaload, 1) := by decide +kernel
theorem dX6_isOlder_9 : decode cX6_isOlder 9 = .ok (.aload_n 0, 1) := by decide +kernel
theorem dX6_isOlder_10 : decode cX6_isOlder 10 = .ok (.getfield 7, 3) := by decide +kernel
theorem dX6_isOlder_13 : decode cX6_isOlder 13 = .ok (.bipush 82, 2) := by decide +kernel
theorem dX6_isOlder_15 : decode cX6_isOlder 15 = .ok (.iload_n 2, 1) := by decide +kernel
theorem dX6_isOlder_16 : decode cX6_isOlder 16 = .ok (.iadd, 1) := by decide +kernel
theorem dX6_isOlder_17 : decode cX6_isOlder 17 = .ok (.iaload, 1) := by decide +kernel
theorem dX6_isOlder_18 : decode cX6_isOlder 18 = .ok (.if_icmp .lt 29, 3) := by decide +kernel
theorem dX6_isOlder_21 : decode cX6_isOlder 21 = .ok (.aload_n 0, 1) := by decide +kernel
theorem dX6_isOlder_22 : decode cX6_isOlder 22 = .ok (.getfield 7, 3) := by decide +kernel
theorem dX6_isOlder_25 : decode cX6_isOlder 25 = .ok (.bipush 82, 2) := by decide +kernel
theorem dX6_isOlder_27 : decode cX6_isOlder 27 = .ok (.iload_n 1, 1) := by decide +kernel
theorem dX6_isOlder_28 : decode cX6_isOlder 28 = .ok (.iadd, 1) := by decide +kernel
theorem dX6_isOlder_29 : decode cX6_isOlder 29 = .ok (.iaload, 1) := by decide +kernel
theorem dX6_isOlder_30 : decode cX6_isOlder 30 = .ok (.aload_n 0, 1) := by decide +kernel
theorem dX6_isOlder_31 : decode cX6_isOlder 31 = .ok (.getfield 7, 3) := by decide +kernel
theorem dX6_isOlder_34 : decode cX6_isOlder 34 = .ok (.bipush 82, 2) := by decide +kernel
theorem dX6_isOlder_36 : decode cX6_isOlder 36 = .ok (.iload_n 2, 1) := by decide +kernel
theorem dX6_isOlder_37 : decode cX6_isOlder 37 = .ok (.iadd, 1) := by decide +kernel
theorem dX6_isOlder_38 : decode cX6_isOlder 38 = .ok (.iaload, 1) := by decide +kernel
theorem dX6_isOlder_39 : decode cX6_isOlder 39 = .ok (.if_icmp .ne 12, 3) := by decide +kernel
theorem dX6_isOlder_42 : decode cX6_isOlder 42 = .ok (.iload_n 1, 1) := by decide +kernel
theorem dX6_isOlder_43 : decode cX6_isOlder 43 = .ok (.iload_n 2, 1) := by decide +kernel
theorem dX6_isOlder_44 : decode cX6_isOlder 44 = .ok (.if_icmp .ge 7, 3) := by decide +kernel
theorem dX6_isOlder_47 : decode cX6_isOlder 47 = .ok (.iconst 1, 1) := by decide +kernel
theorem dX6_isOlder_48 : decode cX6_isOlder 48 = .ok (.goto 4, 3) := by decide +kernel
theorem dX6_isOlder_51 : decode cX6_isOlder 51 = .ok (.iconst 0, 1) := by decide +kernel
theorem dX6_isOlder_52 : decode cX6_isOlder 52 = .ok (.ireturn, 1) := by decide +kernel
set_option maxRecDepth 20000 in
theorem ggX6_ranked_X6_isOlder : GoodIn wsX6_ranked wsX6_isOlder := goodIn_r _ [6, 1, 7, 8, 9, 10, 11, 12, 13, 14, 15, 16, 17, 18] (by decide +kernel) (by decide +kernel)
set_option maxRecDepth 20000 in
theorem gX6_ranked_X6_isOlder : GoodIn wsX6_ranked (wsV RX6 73 RX6 yX6_isOlder wsX6_isOlder) := goodIn_app (goodIn_of _ (by decide +kernel)) ggX6_ranked_X6_isOlder
theorem dX6_ranked_0 : decode cX6_ranked 0 = .ok (.iconst 0, 1) := by decide +kernel
theorem dX6_ranked_1 : decode cX6_ranked 1 = .ok (.istore_n 2, 1) := by decide +kernel
theorem dX6_ranked_2 : decode cX6_ranked 2 = .ok (.iload_n 2, 1) := by decide +kernel
theorem dX6_ranked_3 : decode cX6_ranked 3 = .ok (.aload_n 0, 1) := by decide +kernel
theorem dX6_ranked_4 : decode cX6_ranked 4 = .ok (.getfield 7, 3) := by decide +kernel
theorem dX6_ranked_7 : decode cX6_ranked 7 = .ok (.iconst 2, 1) := by decide +kernel
theorem dX6_ranked_8 : decode cX6_ranked 8 = .ok (.iaload, 1) := by decide +kernel
theorem dX6_ranked_9 : decode cX6_ranked 9 = .ok (.if_icmp .ge 56, 3) := by decide +kernel
theorem dX6_ranked_12 : decode cX6_ranked 12 = .ok (.iconst 0, 1) := by decide +kernel
theorem dX6_ranked_13 : decode cX6_ranked 13 = .ok (.istore_n 3, 1) := by decide +kernel
theorem dX6_ranked_14 : decode cX6_ranked 14 = .ok (.iconst 0, 1) := by decide +kernel
theorem dX6_ranked_15 : decode cX6_ranked 15 = .ok (.istore 4, 2) := by decide +kernel
theorem dX6_ranked_17 : decode cX6_ranked 17 = .ok (.iload 4, 2) := by decide +kernel
theorem dX6_ranked_19 : decode cX6_ranked 19 = .ok (.aload_n 0, 1) := by decide +kernel
theorem dX6_ranked_20 : decode cX6_ranked 20 = .ok (.getfield 7, 3) := by decide +kernel
theorem dX6_ranked_23 : decode cX6_ranked 23 = .ok (.iconst 2, 1) := by decide +kernel
theorem dX6_ranked_24 : decode cX6_ranked 24 = .ok (.iaload, 1) := by decide +kernel
theorem dX6_ranked_25 : decode cX6_ranked 25 = .ok (.if_icmp .ge 27, 3) := by decide +kernel
theorem dX6_ranked_28 : decode cX6_ranked 28 = .ok (.iload_n 3, 1) := by decide +kernel
theorem dX6_ranked_29 : decode cX6_ranked 29 = .ok (.aload_n 0, 1) := by decide +kernel
theorem dX6_ranked_30 : decode cX6_ranked 30 = .ok (.iload 4, 2) := by decide +kernel
theorem dX6_ranked_32 : decode cX6_ranked 32 = .ok (.iload_n 2, 1) := by decide +kernel
theorem dX6_ranked_33 : decode cX6_ranked 33 = .ok (.invokevirtual 73, 3) := by decide +kernel
theorem dX6_ranked_36 : decode cX6_ranked 36 = .ok (.ifCond .eq 7, 3) := by decide +kernel
theorem dX6_ranked_39 : decode cX6_ranked 39 = .ok (.iconst 1, 1) := by decide +kernel
theorem dX6_ranked_40 : decode cX6_ranked 40 = .ok (.goto 4, 3) := by decide +kernel
theorem dX6_ranked_43 : decode cX6_ranked 43 = .ok (.iconst 0, 1) := by decide +kernel
theorem dX6_ranked_44 : decode cX6_ranked 44 = .ok (.iadd, 1) := by decide +kernel
theorem dX6_ranked_45 : decode cX6_ranked 45 = .ok (.istore_n 3, 1) := by decide +kernel
theorem dX6_ranked_46 : decode cX6_ranked 46 = .ok (.iinc 4 1, 3) := by decide +kernel
theorem dX6_ranked_49 : decode cX6_ranked 49 = .ok (.goto (-32), 3) := by decide +kernel
theorem dX6_ranked_52 : decode cX6_ranked 52 = .ok (.iload_n 3, 1) := by decide +kernel
theorem dX6_ranked_53 : decode cX6_ranked 53 = .ok (.iload_n 1, 1) := by decide +kernel
theorem dX6_ranked_54 : decode cX6_ranked 54 = .ok (.if_icmp .ne 5, 3) := by decide +kernel
theorem dX6_ranked_57 : decode cX6_ranked 57 = .ok (.iload_n 2, 1) := by decide +kernel
theorem dX6_ranked_58 : decode cX6_ranked 58 = .ok (.ireturn, 1) := by decide +kernel
theorem dX6_ranked_59 : decode cX6_ranked 59 = .ok (.iinc 2 1, 3) := by decide +kernel
theorem dX6_ranked_62 : decode cX6_ranked 62 = .ok (.goto (-60), 3) := by decide +kernel
theorem dX6_ranked_65 : decode cX6_ranked 65 = .ok (.bipush (-101), 2) := by decide +kernel
theorem dX6_ranked_67 : decode cX6_ranked 67 = .ok (.ireturn, 1) := by decide +kernel
set_option maxRecDepth 20000 in
theorem ggX6_userByAge_X6_ranked : GoodIn wsX6_userByAge wsX6_ranked := goodIn_r _ [5, 6, 7, 8, 9, 4, 10, 11, 12, 13, 14, 15, 16, 17, 18, 19, 20, 21, 22] (by decide +kernel) (by decide +kernel)
set_option maxRecDepth 20000 in
theorem gX6_userByAge_X6_ranked : GoodIn wsX6_userByAge (wsV RX6 76 RX6 yX6_ranked wsX6_ranked) := goodIn_app (goodIn_of _ (by decide +kernel)) ggX6_userByAge_X6_ranked
theorem dX6_userByAge_0 : decode cX6_userByAge 0 = .ok (.aload_n 0, 1) := by decide +kernel
theorem dX6_userByAge_1 : decode cX6_userByAge 1 = .ok (.iload_n 1, 1) := by decide +kernel
theorem dX6_userByAge_2 : decode cX6_userByAge 2 = .ok (.invokevirtual 76, 3) := by decide +kernel
theorem dX6_userByAge_5 : decode cX6_userByAge 5 = .ok (.ireturn, 1) := by decide +kernel
theorem dX6_hour_0 : decode cX6_hour 0 = .ok (.aload_n 0, 1) := by decide +kernel
theorem dX6_hour_1 : decode cX6_hour 1 = .ok (.getfield 7, 3) := by decide +kernel
theorem dX6_hour_4 : decode cX6_hour 4 = .ok (.iconst 0, 1) := by decide +kernel
theorem dX6_hour_5 : decode cX6_hour 5 = .ok (.iaload, 1) := by decide +kernel
theorem dX6_hour_6 : decode cX6_hour 6 = .ok (.bipush 24, 2) := by decide +kernel
theorem dX6_hour_8 : decode cX6_hour 8 = .ok (.irem, 1) := by decide +kernel
theorem dX6_hour_9 : decode cX6_hour 9 = .ok (.ireturn, 1) := by decide +kernel
set_option maxRecDepth 20000 in
theorem ggX6_need_X6_hour : GoodIn wsX6_need wsX6_hour := goodIn_r _ [6, 1, 10, 11, 12, 13, 14, 15, 16, 17, 18, 19, 20, 21] (by decide +kernel) (by decide +kernel)
set_option maxRecDepth 20000 in
theorem gX6_need_X6_hour : GoodIn wsX6_need (wsV RX6 80 RX6 yX6_hour wsX6_hour) := goodIn_app (goodIn_of _ (by decide +kernel)) ggX6_need_X6_hour
set_option maxRecDepth 20000 in
theorem ggX6_need_X6_in : GoodIn wsX6_need wsX6_in := goodIn_r _ [9] (by decide +kernel) (by decide +kernel)
set_option maxRecDepth 20000 in
theorem gX6_need_X6_in : GoodIn wsX6_need (va_wsS RX6 41 yX6_in wsX6_in) := goodIn_app (goodIn_of _ (by decide +kernel)) ggX6_need_X6_in
theorem dX6_need_0 : decode cX6_need 0 = .ok (.aload_n 0, 1) := by decide +kernel
theorem dX6_need_1 : decode cX6_need 1 = .ok (.invokevirtual 80, 3) := by decide +kernel
theorem dX6_need_4 : decode cX6_need 4 = .ok (.aload_n 0, 1) := by decide +kernel
theorem dX6_need_5 : decode cX6_need 5 = .ok (.getfield 7, 3) := by decide +kernel
theorem dX6_need_8 : decode cX6_need 8 = .ok (.bipush 118, 2) := by decide +kernel
theorem dX6_need_10 : decode cX6_need 10 = .ok (.iload_n 1, 1) := by decide +kernel
theorem dX6_need_11 : decode cX6_need 11 = .ok (.iadd, 1) := by decide +kernel
theorem dX6_need_12 : decode cX6_need 12 = .ok (.iaload, 1) := by decide +kernel
theorem dX6_need_13 : decode cX6_need 13 = .ok (.aload_n 0, 1) := by decide +kernel
theorem dX6_need_14 : decode cX6_need 14 = .ok (.getfield 7, 3) := by decide +kernel
theorem dX6_need_17 : decode cX6_need 17 = .ok (.sipush 130, 3) := by decide +kernel
theorem dX6_need_20 : decode cX6_need 20 = .ok (.iload_n 1, 1) := by decide +kernel
theorem dX6_need_21 : decode cX6_need 21 = .ok (.iadd, 1) := by decide +kernel
theorem dX6_need_22 : decode cX6_need 22 = .ok (.iaload, 1) := by decide +kernel
theorem dX6_need_23 : decode cX6_need 23 = .ok (.iconst 1, 1) := by decide +kernel
theorem dX6_need_24 : decode cX6_need 24 = .ok (.isub, 1) := by decide +kernel
theorem dX6_need_25 : decode cX6_need 25 = .ok (.invokestatic 41, 3) := by decide +kernel
theorem dX6_need_28 : decode cX6_need 28 = .ok (.ifCond .eq 15, 3) := by decide +kernel
theorem dX6_need_31 : decode cX6_need 31 = .ok (.aload_n 0, 1) := by decide +kernel
theorem dX6_need_32 : decode cX6_need 32 = .ok (.getfield 7, 3) := by decide +kernel
theorem dX6_need_35 : decode cX6_need 35 = .ok (.bipush 106, 2) := by decide +kernel
theorem dX6_need_37 : decode cX6_need 37 = .ok (.iload_n 1, 1) := by decide +kernel
theorem dX6_need_38 : decode cX6_need 38 = .ok (.iadd, 1) := by decide +kernel
theorem dX6_need_39 : decode cX6_need 39 = .ok (.iaload, 1) := by decide +kernel
theorem dX6_need_40 : decode cX6_need 40 = .ok (.goto 4, 3) := by decide +kernel
theorem dX6_need_43 : decode cX6_need 43 = .ok (.iconst 0, 1) := by decide +kernel
theorem dX6_need_44 : decode cX6_need 44 = .ok (.ireturn, 1) := by decide +kernel
theorem dX6_turnNow_0 : decode cX6_turnNow 0 = .ok (.iconst 0, 1) := by decide +kernel
theorem dX6_turnNow_1 : decode cX6_turnNow 1 = .ok (.istore_n 1, 1) := by decide +kernel
theorem dX6_turnNow_2 : decode cX6_turnNow 2 = .ok (.iconst 0, 1) := by decide +kernel
theorem dX6_turnNow_3 : decode cX6_turnNow 3 = .ok (.istore_n 2, 1) := by decide +kernel
theorem dX6_turnNow_4 : decode cX6_turnNow 4 = .ok (.iload_n 2, 1) := by decide +kernel
theorem dX6_turnNow_5 : decode cX6_turnNow 5 = .ok (.aload_n 0, 1) := by decide +kernel
theorem dX6_turnNow_6 : decode cX6_turnNow 6 = .ok (.getfield 7, 3) := by decide +kernel
theorem dX6_turnNow_9 : decode cX6_turnNow 9 = .ok (.iconst 2, 1) := by decide +kernel
theorem dX6_turnNow_10 : decode cX6_turnNow 10 = .ok (.iaload, 1) := by decide +kernel
theorem dX6_turnNow_11 : decode cX6_turnNow 11 = .ok (.if_icmp .ge 22, 3) := by decide +kernel
theorem dX6_turnNow_14 : decode cX6_turnNow 14 = .ok (.iload_n 1, 1) := by decide +kernel
theorem dX6_turnNow_15 : decode cX6_turnNow 15 = .ok (.aload_n 0, 1) := by decide +kernel
theorem dX6_turnNow_16 : decode cX6_turnNow 16 = .ok (.getfield 7, 3) := by decide +kernel
theorem dX6_turnNow_19 : decode cX6_turnNow 19 = .ok (.sipush 178, 3) := by decide +kernel
theorem dX6_turnNow_22 : decode cX6_turnNow 22 = .ok (.iload_n 2, 1) := by decide +kernel
theorem dX6_turnNow_23 : decode cX6_turnNow 23 = .ok (.iadd, 1) := by decide +kernel
theorem dX6_turnNow_24 : decode cX6_turnNow 24 = .ok (.iaload, 1) := by decide +kernel
theorem dX6_turnNow_25 : decode cX6_turnNow 25 = .ok (.iadd, 1) := by decide +kernel
theorem dX6_turnNow_26 : decode cX6_turnNow 26 = .ok (.istore_n 1, 1) := by decide +kernel
theorem dX6_turnNow_27 : decode cX6_turnNow 27 = .ok (.iinc 2 1, 3) := by decide +kernel
theorem dX6_turnNow_30 : decode cX6_turnNow 30 = .ok (.goto (-26), 3) := by decide +kernel
theorem dX6_turnNow_33 : decode cX6_turnNow 33 = .ok (.aload_n 0, 1) := by decide +kernel
theorem dX6_turnNow_34 : decode cX6_turnNow 34 = .ok (.getfield 7, 3) := by decide +kernel
theorem dX6_turnNow_37 : decode cX6_turnNow 37 = .ok (.iconst 3, 1) := by decide +kernel
theorem dX6_turnNow_38 : decode cX6_turnNow 38 = .ok (.iaload, 1) := by decide +kernel
theorem dX6_turnNow_39 : decode cX6_turnNow 39 = .ok (.iconst 1, 1) := by decide +kernel
theorem dX6_turnNow_40 : decode cX6_turnNow 40 = .ok (.if_icmp .ne 7, 3) := by decide +kernel
theorem dX6_turnNow_43 : decode cX6_turnNow 43 = .ok (.iload_n 1, 1) := by decide +kernel
theorem dX6_turnNow_44 : decode cX6_turnNow 44 = .ok (.ifCond .ne 5, 3) := by decide +kernel
theorem dX6_turnNow_47 : decode cX6_turnNow 47 = .ok (.iconst (-1), 1) := by decide +kernel
theorem dX6_turnNow_48 : decode cX6_turnNow 48 = .ok (.ireturn, 1) := by decide +kernel
theorem dX6_turnNow_49 : decode cX6_turnNow 49 = .ok (.aload_n 0, 1) := by decide +kernel
theorem dX6_turnNow_50 : decode cX6_turnNow 50 = .ok (.getfield 7, 3) := by decide +kernel
theorem dX6_turnNow_53 : decode cX6_turnNow 53 = .ok (.iconst 0, 1) := by decide +kernel
theorem dX6_turnNow_54 : decode cX6_turnNow 54 = .ok (.iaload, 1) := by decide +kernel
theorem dX6_turnNow_55 : decode cX6_turnNow 55 = .ok (.iload_n 1, 1) := by decide +kernel
theorem dX6_turnNow_56 : decode cX6_turnNow 56 = .ok (.irem, 1) := by decide +kernel
theorem dX6_turnNow_57 : decode cX6_turnNow 57 = .ok (.istore_n 2, 1) := by decide +kernel
theorem dX6_turnNow_58 : decode cX6_turnNow 58 = .ok (.iconst 0, 1) := by decide +kernel
theorem dX6_turnNow_59 : decode cX6_turnNow 59 = .ok (.istore_n 3, 1) := by decide +kernel
theorem dX6_turnNow_60 : decode cX6_turnNow 60 = .ok (.iload_n 2, 1) := by decide +kernel
theorem dX6_turnNow_61 : decode cX6_turnNow 61 = .ok (.aload_n 0, 1) := by decide +kernel
theorem dX6_turnNow_62 : decode cX6_turnNow 62 = .ok (.getfield 7, 3) := by decide +kernel
theorem dX6_turnNow_65 : decode cX6_turnNow 65 = .ok (.sipush 178, 3) := by decide +kernel
theorem dX6_turnNow_68 : decode cX6_turnNow 68 = .ok (.iload_n 3, 1) := by decide +kernel
theorem dX6_turnNow_69 : decode cX6_turnNow 69 = .ok (.iadd, 1) := by decide +kernel
theorem dX6_turnNow_70 : decode cX6_turnNow 70 = .ok (.iaload, 1) := by decide +kernel
theorem dX6_turnNow_71 : decode cX6_turnNow 71 = .ok (.if_icmp .lt 22, 3) := by decide +kernel
theorem dX6_turnNow_74 : decode cX6_turnNow 74 = .ok (.iload_n 2, 1) := by decide +kernel
theorem dX6_turnNow_75 : decode cX6_turnNow 75 = .ok (.aload_n 0, 1) := by decide +kernel
theorem dX6_turnNow_76 : decode cX6_turnNow 76 = .ok (.getfield 7, 3) := by decide +kernel
theorem dX6_turnNow_79 : decode cX6_turnNow 79 = .ok (.sipush 178, 3) := by decide +kernel
theorem dX6_turnNow_82 : decode cX6_turnNow 82 = .ok (.iload_n 3, 1) := by decide +kernel
theorem dX6_turnNow_83 : decode cX6_turnNow 83 = .ok (.iadd, 1) := by decide +kernel
theorem dX6_turnNow_84 : decode cX6_turnNow 84 = .ok (.iaload, 1) := by decide +kernel
theorem dX6_turnNow_85 : decode cX6_turnNow 85 = .ok (.isub, 1) := by decide +kernel
theorem dX6_turnNow_86 : decode cX6_turnNow 86 = .ok (.istore_n 2, 1) := by decide +kernel
theorem dX6_turnNow_87 : decode cX6_turnNow 87 = .ok (.iinc 3 1, 3) := by decide +kernel
theorem dX6_turnNow_90 : decode cX6_turnNow 90 = .ok (.goto (-30), 3) := by decide +kernel
theorem dX6_turnNow_93 : decode cX6_turnNow 93 = .ok (.iload_n 3, 1) := by decide +kernel
theorem dX6_turnNow_94 : decode cX6_turnNow 94 = .ok (.ireturn, 1) := by decide +kernel
set_option maxRecDepth 20000 in
theorem ggX6_findAsked_X6_turnNow : GoodIn wsX6_findAsked wsX6_turnNow := goodIn_r _ [7, 1, 22, 23, 24, 25, 26, 27, 28, 29, 30, 31, 32, 33] (by decide +kernel) (by decide +kernel)
set_option maxRecDepth 20000 in
theorem gX6_findAsked_X6_turnNow : GoodIn wsX6_findAsked (wsV RX6 84 RX6 yX6_turnNow wsX6_turnNow) := goodIn_app (goodIn_of _ (by decide +kernel)) ggX6_findAsked_X6_turnNow
set_option maxRecDepth 20000 in
theorem ggX6_findAsked_X6_need : GoodIn wsX6_findAsked wsX6_need := goodIn_r _ [11, 1, 12, 13, 14, 6, 15, 16, 17, 18, 22, 23, 24, 25, 26, 27, 28, 29, 30, 31, 32, 33] (by decide +kernel) (by decide +kernel)
set_option maxRecDepth 20000 in
theorem gX6_findAsked_X6_need : GoodIn wsX6_findAsked (wsV RX6 87 RX6 yX6_need wsX6_need) := goodIn_app (goodIn_of _ (by decide +kernel)) ggX6_findAsked_X6_need
set_option maxRecDepth 20000 in
theorem ggX6_findAsked_X6_least : GoodIn wsX6_findAsked wsX6_least := goodIn_r _ [21] (by decide +kernel) (by decide +kernel)
set_option maxRecDepth 20000 in
theorem gX6_findAsked_X6_least : GoodIn wsX6_findAsked (va_wsS RX6 67 yX6_least wsX6_least) := goodIn_app (goodIn_of _ (by decide +kernel)) ggX6_findAsked_X6_least
theorem dX6_findAsked_0 : decode cX6_findAsked 0 = .ok (.aload_n 0, 1) := by decide +kernel
theorem dX6_findAsked_1 : decode cX6_findAsked 1 = .ok (.invokevirtual 84, 3) := by decide +kernel
theorem dX6_findAsked_4 : decode cX6_findAsked 4 = .ok (.istore_n 1, 1) := by decide +kernel
theorem dX6_findAsked_5 : decode cX6_findAsked 5 = .ok (.iconst 0, 1) := by decide +kernel
theorem dX6_findAsked_6 : decode cX6_findAsked 6 = .ok (.istore_n 2, 1) := by decide +kernel
theorem dX6_findAsked_7 : decode cX6_findAsked 7 = .ok (.iload_n 2, 1) := by decide +kernel
theorem dX6_findAsked_8 : decode cX6_findAsked 8 = .ok (.aload_n 0, 1) := by decide +kernel
theorem dX6_findAsked_9 : decode cX6_findAsked 9 = .ok (.getfield 7, 3) := by decide +kernel
theorem dX6_findAsked_12 : decode cX6_findAsked 12 = .ok (.iconst 2, 1) := by decide +kernel
theorem dX6_findAsked_13 : decode cX6_findAsked 13 = .ok (.iaload, 1) := by decide +kernel
theorem dX6_findAsked_14 : decode cX6_findAsked 14 = .ok (.if_icmp .ge 83, 3) := by decide +kernel
theorem dX6_findAsked_17 : decode cX6_findAsked 17 = .ok (.aload_n 0, 1) := by decide +kernel
theorem dX6_findAsked_18 : decode cX6_findAsked 18 = .ok (.iload_n 2, 1) := by decide +kernel
theorem dX6_findAsked_19 : decode cX6_findAsked 19 = .ok (.invokevirtual 87, 3) := by decide +kernel
theorem dX6_findAsked_22 : decode cX6_findAsked 22 = .ok (.aload_n 0, 1) := by decide +kernel
theorem dX6_findAsked_23 : decode cX6_findAsked 23 = .ok (.getfield 7, 3) := by decide +kernel
theorem dX6_findAsked_26 : decode cX6_findAsked 26 = .ok (.sipush 142, 3) := by decide +kernel
theorem dX6_findAsked_29 : decode cX6_findAsked 29 = .ok (.iload_n 2, 1) := by decide +kernel
theorem dX6_findAsked_30 : decode cX6_findAsked 30 = .ok (.iadd, 1) := by decide +kernel
theorem dX6_findAsked_31 : decode cX6_findAsked 31 = .ok (.iaload, 1) := by decide +kernel
theorem dX6_findAsked_32 : decode cX6_findAsked 32 = .ok (.iadd, 1) := by decide +kernel
theorem dX6_findAsked_33 : decode cX6_findAsked 33 = .ok (.aload_n 0, 1) := by decide +kernel
theorem dX6_findAsked_34 : decode cX6_findAsked 34 = .ok (.getfield 7, 3) := by decide +kernel
theorem dX6_findAsked_37 : decode cX6_findAsked 37 = .ok (.sipush 154, 3) := by decide +kernel
theorem dX6_findAsked_40 : decode cX6_findAsked 40 = .ok (.iload_n 2, 1) := by decide +kernel
theorem dX6_findAsked_41 : decode cX6_findAsked 41 = .ok (.iadd, 1) := by decide +kernel
theorem dX6_findAsked_42 : decode cX6_findAsked 42 = .ok (.iaload, 1) := by decide +kernel
theorem dX6_findAsked_43 : decode cX6_findAsked 43 = .ok (.isub, 1) := by decide +kernel
theorem dX6_findAsked_44 : decode cX6_findAsked 44 = .ok (.istore_n 3, 1) := by decide +kernel
theorem dX6_findAsked_45 : decode cX6_findAsked 45 = .ok (.aload_n 0, 1) := by decide +kernel
theorem dX6_findAsked_46 : decode cX6_findAsked 46 = .ok (.getfield 26, 3) := by decide +kernel
theorem dX6_findAsked_49 : decode cX6_findAsked 49 = .ok (.iload_n 2, 1) := by decide +kernel
theorem dX6_findAsked_50 : decode cX6_findAsked 50 = .ok (.aload_n 0, 1) := by decide +kernel
theorem dX6_findAsked_51 : decode cX6_findAsked 51 = .ok (.getfield 7, 3) := by decide +kernel
theorem dX6_findAsked_54 : decode cX6_findAsked 54 = .ok (.sipush 202, 3) := by decide +kernel
theorem dX6_findAsked_57 : decode cX6_findAsked 57 = .ok (.iload_n 2, 1) := by decide +kernel
theorem dX6_findAsked_58 : decode cX6_findAsked 58 = .ok (.iadd, 1) := by decide +kernel
theorem dX6_findAsked_59 : decode cX6_findAsked 59 = .ok (.iaload, 1) := by decide +kernel
theorem dX6_findAsked_60 : decode cX6_findAsked 60 = .ok (.iconst 1, 1) := by decide +kernel
theorem dX6_findAsked_61 : decode cX6_findAsked 61 = .ok (.if_icmp .ne 7, 3) := by decide +kernel
theorem dX6_findAsked_64 : decode cX6_findAsked 64 = .ok (.iconst 0, 1) := by decide +kernel
theorem dX6_findAsked_65 : decode cX6_findAsked 65 = .ok (.goto 25, 3) := by decide +kernel
theorem dX6_findAsked_68 : decode cX6_findAsked 68 = .ok (.iload_n 2, 1) := by decide +kernel
theorem dX6_findAsked_69 : decode cX6_findAsked 69 = .ok (.iload_n 1, 1) := by decide +kernel
theorem dX6_findAsked_70 : decode cX6_findAsked 70 = .ok (.if_icmp .ne 7, 3) := by decide +kernel
theorem dX6_findAsked_73 : decode cX6_findAsked 73 = .ok (.iload_n 3, 1) := by decide +kernel
theorem dX6_findAsked_74 : decode cX6_findAsked 74 = .ok (.goto 16, 3) := by decide +kernel
theorem dX6_findAsked_77 : decode cX6_findAsked 77 = .ok (.iload_n 3, 1) := by decide +kernel
theorem dX6_findAsked_78 : decode cX6_findAsked 78 = .ok (.aload_n 0, 1) := by decide +kernel
theorem dX6_findAsked_79 : decode cX6_findAsked 79 = .ok (.getfield 7, 3) := by decide +kernel
theorem dX6_findAsked_82 : decode cX6_findAsked 82 = .ok (.bipush 94, 2) := by decide +kernel
theorem dX6_findAsked_84 : decode cX6_findAsked 84 = .ok (.iload_n 2, 1) := by decide +kernel
theorem dX6_findAsked_85 : decode cX6_findAsked 85 = .ok (.iadd, 1) := by decide +kernel
theorem dX6_findAsked_86 : decode cX6_findAsked 86 = .ok (.iaload, 1) := by decide +kernel
theorem dX6_findAsked_87 : decode cX6_findAsked 87 = .ok (.invokestatic 67, 3) := by decide +kernel
theorem dX6_findAsked_90 : decode cX6_findAsked 90 = .ok (.iastore, 1) := by decide +kernel
theorem dX6_findAsked_91 : decode cX6_findAsked 91 = .ok (.iinc 2 1, 3) := by decide +kernel
theorem dX6_findAsked_94 : decode cX6_findAsked 94 = .ok (.goto (-87), 3) := by decide +kernel
theorem dX6_findAsked_97 : decode cX6_findAsked 97 = .ok (.return_, 1) := by decide +kernel
set_option maxRecDepth 20000 in
theorem ggX6_isPossible_X6_hour : GoodIn wsX6_isPossible wsX6_hour := goodIn_r _ [9, 1, 10, 11, 12, 13, 14, 15, 16, 17, 18, 19, 20, 21] (by decide +kernel) (by decide +kernel)
set_option maxRecDepth 20000 in
theorem gX6_isPossible_X6_hour : GoodIn wsX6_isPossible (wsV RX6 80 RX6 yX6_hour wsX6_hour) := goodIn_app (goodIn_of _ (by decide +kernel)) ggX6_isPossible_X6_hour
theorem dX6_isPossible_0 : decode cX6_isPossible 0 = .ok (.iconst 1, 1) := by decide +kernel
theorem dX6_isPossible_1 : decode cX6_isPossible 1 = .ok (.istore_n 1, 1) := by decide +kernel
theorem dX6_isPossible_2 : decode cX6_isPossible 2 = .ok (.iconst 0, 1) := by decide +kernel
theorem dX6_isPossible_3 : decode cX6_isPossible 3 = .ok (.istore_n 2, 1) := by decide +kernel
theorem dX6_isPossible_4 : decode cX6_isPossible 4 = .ok (.iload_n 2, 1) := by decide +kernel
theorem dX6_isPossible_5 : decode cX6_isPossible 5 = .ok (.aload_n 0, 1) := by decide +kernel
theorem dX6_isPossible_6 : decode cX6_isPossible 6 = .ok (.getfield 7, 3) := by decide +kernel
theorem dX6_isPossible_9 : decode cX6_isPossible 9 = .ok (.iconst 1, 1) := by decide +kernel
theorem dX6_isPossible_10 : decode cX6_isPossible 10 = .ok (.iaload, 1) := by decide +kernel
theorem dX6_isPossible_11 : decode cX6_isPossible 11 = .ok (.if_icmp .ge 16, 3) := by decide +kernel
theorem dX6_isPossible_14 : decode cX6_isPossible 14 = .ok (.aload_n 0, 1) := by decide +kernel
theorem dX6_isPossible_15 : decode cX6_isPossible 15 = .ok (.getfield 35, 3) := by decide +kernel
theorem dX6_isPossible_18 : decode cX6_isPossible 18 = .ok (.iload_n 2, 1) := by decide +kernel
theorem dX6_isPossible_19 : decode cX6_isPossible 19 = .ok (.iconst 0, 1) := by decide +kernel
theorem dX6_isPossible_20 : decode cX6_isPossible 20 = .ok (.iastore, 1) := by decide +kernel
theorem dX6_isPossible_21 : decode cX6_isPossible 21 = .ok (.iinc 2 1, 3) := by decide +kernel
theorem dX6_isPossible_24 : decode cX6_isPossible 24 = .ok (.goto (-20), 3) := by decide +kernel
theorem dX6_isPossible_27 : decode cX6_isPossible 27 = .ok (.iconst 0, 1) := by decide +kernel
theorem dX6_isPossible_28 : decode cX6_isPossible 28 = .ok (.istore_n 2, 1) := by decide +kernel
theorem dX6_isPossible_29 : decode cX6_isPossible 29 = .ok (.iload_n 2, 1) := by decide +kernel
theorem dX6_isPossible_30 : decode cX6_isPossible 30 = .ok (.aload_n 0, 1) := by decide +kernel
theorem dX6_isPossible_31 : decode cX6_isPossible 31 = .ok (.getfield 7, 3) := by decide +kernel
theorem dX6_isPossible_34 : decode cX6_isPossible 34 = .ok (.iconst 2, 1) := by decide +kernel
theorem dX6_isPossible_35 : decode cX6_isPossible 35 = .ok (.iaload, 1) := by decide +kernel
theorem dX6_isPossible_36 : decode cX6_isPossible 36 = .ok (.if_icmp .ge 32, 3) := by decide +kernel
theorem dX6_isPossible_39 : decode cX6_isPossible 39 = .ok (.aload_n 0, 1) := by decide +kernel
theorem dX6_isPossible_40 : decode cX6_isPossible 40 = .ok (.getfield 35, 3) := by decide +kernel
theorem dX6_isPossible_43 : decode cX6_isPossible 43 = .ok (.aload_n 0, 1) := by decide +kernel
theorem dX6_isPossible_44 : decode cX6_isPossible 44 = .ok (.getfield 7, 3) := by decide +kernel
theorem dX6_isPossible_47 : decode cX6_isPossible 47 = .ok (.bipush 70, 2) := by decide +kernel
theorem dX6_isPossible_49 : decode cX6_isPossible 49 = .ok (.iload_n 2, 1) := by decide +kernel
theorem dX6_isPossible_50 : decode cX6_isPossible 50 = .ok (.iadd, 1) := by decide +kernel
theorem dX6_isPossible_51 : decode cX6_isPossible 51 = .ok (.iaload, 1) := by decide +kernel
theorem dX6_isPossible_52 : decode cX6_isPossible 52 = .ok (.dup2, 1) := by decide +kernel
theorem dX6_isPossible_53 : decode cX6_isPossible 53 = .ok (.iaload, 1) := by decide +kernel
theorem dX6_isPossible_54 : decode cX6_isPossible 54 = .ok (.aload_n 0, 1) := by decide +kernel
theorem dX6_isPossible_55 : decode cX6_isPossible 55 = .ok (.getfield 29, 3) := by decide +kernel
theorem dX6_isPossible_58 : decode cX6_isPossible 58 = .ok (.iload_n 2, 1) := by decide +kernel
theorem dX6_isPossible_59 : decode cX6_isPossible 59 = .ok (.iaload, 1) := by decide +kernel
theorem dX6_isPossible_60 : decode cX6_isPossible 60 = .ok (.iadd, 1) := by decide +kernel
theorem dX6_isPossible_61 : decode cX6_isPossible 61 = .ok (.iastore, 1) := by decide +kernel
theorem dX6_isPossible_62 : decode cX6_isPossible 62 = .ok (.iinc 2 1, 3) := by decide +kernel
theorem dX6_isPossible_65 : decode cX6_isPossible 65 = .ok (.goto (-36), 3) := by decide +kernel
theorem dX6_isPossible_68 : decode cX6_isPossible 68 = .ok (.aload_n 0, 1) := by decide +kernel
theorem dX6_isPossible_69 : decode cX6_isPossible 69 = .ok (.getfield 7, 3) := by decide +kernel
theorem dX6_isPossible_72 : decode cX6_isPossible 72 = .ok (.iconst 1, 1) := by decide +kernel
theorem dX6_isPossible_73 : decode cX6_isPossible 73 = .ok (.iaload, 1) := by decide +kernel
theorem dX6_isPossible_74 : decode cX6_isPossible 74 = .ok (.iconst 1, 1) := by decide +kernel
theorem dX6_isPossible_75 : decode cX6_isPossible 75 = .ok (.isub, 1) := by decide +kernel
theorem dX6_isPossible_76 : decode cX6_isPossible 76 = .ok (.istore_n 2, 1) := by decide +kernel
theorem dX6_isPossible_77 : decode cX6_isPossible 77 = .ok (.iload_n 2, 1) := by decide +kernel
theorem dX6_isPossible_78 : decode cX6_isPossible 78 = .ok (.ifCond .lt 98, 3) := by decide +kernel
theorem dX6_isPossible_81 : decode cX6_isPossible 81 = .ok (.bipush 100, 2) := by decide +kernel
theorem dX6_isPossible_83 : decode cX6_isPossible 83 = .ok (.aload_n 0, 1) := by decide +kernel
theorem dX6_isPossible_84 : decode cX6_isPossible 84 = .ok (.getfield 7, 3) := by decide +kernel
theorem dX6_isPossible_87 : decode cX6_isPossible 87 = .ok (.bipush 60, 2) := by decide +kernel
theorem dX6_isPossible_89 : decode cX6_isPossible 89 = .ok (.iload_n 2, 1) := by decide +kernel
theorem dX6_isPossible_90 : decode cX6_isPossible 90 = .ok (.iadd, 1) := by decide +kernel
theorem dX6_isPossible_91 : decode cX6_isPossible 91 = .ok (.iaload, 1) := by decide +kernel
theorem dX6_isPossible_92 : decode cX6_isPossible 92 = .ok (.isub, 1) := by decide +kernel
theorem dX6_isPossible_93 : decode cX6_isPossible 93 = .ok (.istore_n 3, 1) := by decide +kernel
theorem dX6_isPossible_94 : decode cX6_isPossible 94 = .ok (.aload_n 0, 1) := by decide +kernel
theorem dX6_isPossible_95 : decode cX6_isPossible 95 = .ok (.getfield 32, 3) := by decide +kernel
theorem dX6_isPossible_98 : decode cX6_isPossible 98 = .ok (.iload_n 2, 1) := by decide +kernel
theorem dX6_isPossible_99 : decode cX6_isPossible 99 = .ok (.bipush 100, 2) := by decide +kernel
theorem dX6_isPossible_101 : decode cX6_isPossible 101 = .ok (.aload_n 0, 1) := by decide +kernel
theorem dX6_isPossible_102 : decode cX6_isPossible 102 = .ok (.getfield 35, 3) := by decide +kernel
theorem dX6_isPossible_105 : decode cX6_isPossible 105 = .ok (.iload_n 2, 1) := by decide +kernel
theorem dX6_isPossible_106 : decode cX6_isPossible 106 = .ok (.iaload, 1) := by decide +kernel
theorem dX6_isPossible_107 : decode cX6_isPossible 107 = .ok (.imul, 1) := by decide +kernel
theorem dX6_isPossible_108 : decode cX6_isPossible 108 = .ok (.iload_n 3, 1) := by decide +kernel
theorem dX6_isPossible_109 : decode cX6_isPossible 109 = .ok (.iadd, 1) := by decide +kernel
theorem dX6_isPossible_110 : decode cX6_isPossible 110 = .ok (.iconst 1, 1) := by decide +kernel
theorem dX6_isPossible_111 : decode cX6_isPossible 111 = .ok (.isub, 1) := by decide +kernel
theorem dX6_isPossible_112 : decode cX6_isPossible 112 = .ok (.iload_n 3, 1) := by decide +kernel
theorem dX6_isPossible_113 : decode cX6_isPossible 113 = .ok (.idiv, 1) := by decide +kernel
theorem dX6_isPossible_114 : decode cX6_isPossible 114 = .ok (.iastore, 1) := by decide +kernel
theorem dX6_isPossible_115 : decode cX6_isPossible 115 = .ok (.iload_n 1, 1) := by decide +kernel
theorem dX6_isPossible_116 : decode cX6_isPossible 116 = .ok (.ifCond .eq 25, 3) := by decide +kernel
theorem dX6_isPossible_119 : decode cX6_isPossible 119 = .ok (.aload_n 0, 1) := by decide +kernel
theorem dX6_isPossible_120 : decode cX6_isPossible 120 = .ok (.getfield 32, 3) := by decide +kernel
theorem dX6_isPossible_123 : decode cX6_isPossible 123 = .ok (.iload_n 2, 1) := by decide +kernel
theorem dX6_isPossible_124 : decode cX6_isPossible 124 = .ok (.iaload, 1) := by decide +kernel
theorem dX6_isPossible_125 : decode cX6_isPossible 125 = .ok (.aload_n 0, 1) := by decide +kernel
theorem dX6_isPossible_126 : decode cX6_isPossible 126 = .ok (.getfield 7, 3) := by decide +kernel
theorem dX6_isPossible_129 : decode cX6_isPossible 129 = .ok (.bipush 50, 2) := by decide +kernel
theorem dX6_isPossible_131 : decode cX6_isPossible 131 = .ok (.iload_n 2, 1) := by decide +kernel
theorem dX6_isPossible_132 : decode cX6_isPossible 132 = .ok (.iadd, 1) := by decide +kernel
theorem dX6_isPossible_133 : decode cX6_isPossible 133 = .ok (.iaload, 1) := by decide +kernel
theorem dX6_isPossible_134 : decode cX6_isPossible 134 = .ok (.if_icmp .gt 7, 3) := by decide +kernel
theorem dX6_isPossible_137 : decode cX6_isPossible 137 = .ok (.iconst 1, 1) := by decide +kernel
theorem dX6_isPossible_138 : decode cX6_isPossible 138 = .ok (.goto 4, 3) := by decide +kernel
theorem dX6_isPossible_141 : decode cX6_isPossible 141 = .ok (.iconst 0, 1) := by decide +kernel
theorem dX6_isPossible_142 : decode cX6_isPossible 142 = .ok (.istore_n 1, 1) := by decide +kernel
theorem dX6_isPossible_143 : decode cX6_isPossible 143 = .ok (.iload_n 2, 1) := by decide +kernel
theorem dX6_isPossible_144 : decode cX6_isPossible 144 = .ok (.ifCond .le 26, 3) := by decide +kernel
theorem dX6_isPossible_147 : decode cX6_isPossible 147 = .ok (.aload_n 0, 1) := by decide +kernel
theorem dX6_isPossible_148 : decode cX6_isPossible 148 = .ok (.getfield 35, 3) := by decide +kernel
theorem dX6_isPossible_151 : decode cX6_isPossible 151 = .ok (.aload_n 0, 1) := by decide +kernel
theorem dX6_isPossible_152 : decode cX6_isPossible 152 = .ok (.getfield 7, 3) := by decide +kernel
theorem dX6_isPossible_155 : decode cX6_isPossible 155 = .ok (.bipush 40, 2) := by decide +kernel
theorem dX6_isPossible_157 : decode cX6_isPossible 157 = .ok (.iload_n 2, 1) := by decide +kernel
theorem dX6_isPossible_158 : decode cX6_isPossible 158 = .ok (.iadd, 1) := by decide +kernel
theorem dX6_isPossible_159 : decode cX6_isPossible 159 = .ok (.iaload, 1) := by decide +kernel
theorem dX6_isPossible_160 : decode cX6_isPossible 160 = .ok (.dup2, 1) := by decide +kernel
theorem dX6_isPossible_161 : decode cX6_isPossible 161 = .ok (.iaload, 1) := by decide +kernel
theorem dX6_isPossible_162 : decode cX6_isPossible 162 = .ok (.aload_n 0, 1) := by decide +kernel
theorem dX6_isPossible_163 : decode cX6_isPossible 163 = .ok (.getfield 32, 3) := by decide +kernel
theorem dX6_isPossible_166 : decode cX6_isPossible 166 = .ok (.iload_n 2, 1) := by decide +kernel
theorem dX6_isPossible_167 : decode cX6_isPossible 167 = .ok (.iaload, 1) := by decide +kernel
theorem dX6_isPossible_168 : decode cX6_isPossible 168 = .ok (.iadd, 1) := by decide +kernel
theorem dX6_isPossible_169 : decode cX6_isPossible 169 = .ok (.iastore, 1) := by decide +kernel
theorem dX6_isPossible_170 : decode cX6_isPossible 170 = .ok (.iinc 2 (-1), 3) := by decide +kernel
theorem dX6_isPossible_173 : decode cX6_isPossible 173 = .ok (.goto (-96), 3) := by decide +kernel
theorem dX6_isPossible_176 : decode cX6_isPossible 176 = .ok (.iload_n 1, 1) := by decide +kernel
theorem dX6_isPossible_177 : decode cX6_isPossible 177 = .ok (.ifCond .eq 28, 3) := by decide +kernel
theorem dX6_isPossible_180 : decode cX6_isPossible 180 = .ok (.aload_n 0, 1) := by decide +kernel
theorem dX6_isPossible_181 : decode cX6_isPossible 181 = .ok (.getfield 32, 3) := by decide +kernel
theorem dX6_isPossible_184 : decode cX6_isPossible 184 = .ok (.iconst 0, 1) := by decide +kernel
theorem dX6_isPossible_185 : decode cX6_isPossible 185 = .ok (.iaload, 1) := by decide +kernel
theorem dX6_isPossible_186 : decode cX6_isPossible 186 = .ok (.aload_n 0, 1) := by decide +kernel
theorem dX6_isPossible_187 : decode cX6_isPossible 187 = .ok (.getfield 7, 3) := by decide +kernel
theorem dX6_isPossible_190 : decode cX6_isPossible 190 = .ok (.bipush 12, 2) := by decide +kernel
theorem dX6_isPossible_192 : decode cX6_isPossible 192 = .ok (.aload_n 0, 1) := by decide +kernel
theorem dX6_isPossible_193 : decode cX6_isPossible 193 = .ok (.invokevirtual 80, 3) := by decide +kernel
theorem dX6_isPossible_196 : decode cX6_isPossible 196 = .ok (.iadd, 1) := by decide +kernel
theorem dX6_isPossible_197 : decode cX6_isPossible 197 = .ok (.iaload, 1) := by decide +kernel
theorem dX6_isPossible_198 : decode cX6_isPossible 198 = .ok (.if_icmp .gt 7, 3) := by decide +kernel
theorem dX6_isPossible_201 : decode cX6_isPossible 201 = .ok (.iconst 1, 1) := by decide +kernel
theorem dX6_isPossible_202 : decode cX6_isPossible 202 = .ok (.goto 4, 3) := by decide +kernel
theorem dX6_isPossible_205 : decode cX6_isPossible 205 = .ok (.iconst 0, 1) := by decide +kernel
theorem dX6_isPossible_206 : decode cX6_isPossible 206 = .ok (.ireturn, 1) := by decide +kernel
set_option maxRecDepth 20000 in
theorem ggX6_serves_X6_isPossible : GoodIn wsX6_serves wsX6_isPossible := goodIn_r _ [7, 8, 9, 1, 10, 11, 12, 13, 6, 14, 15, 16, 17, 18, 19, 20, 21, 22, 23, 24, 25, 26] (by decide +kernel) (by decide +kernel)
set_option maxRecDepth 20000 in
theorem gX6_serves_X6_isPossible : GoodIn wsX6_serves (wsV RX6 90 RX6 yX6_isPossible wsX6_isPossible) := goodIn_app (goodIn_of _ (by decide +kernel)) ggX6_serves_X6_isPossible
theorem dX6_serves_0 : decode cX6_serves 0 = .ok (.aload_n 0, 1) := by decide +kernel
theorem dX6_serves_1 : decode cX6_serves 1 = .ok (.getfield 29, 3) := by decide +kernel
theorem dX6_serves_4 : decode cX6_serves 4 = .ok (.iload_n 1, 1) := by decide +kernel
theorem dX6_serves_5 : decode cX6_serves 5 = .ok (.iaload, 1) := by decide +kernel
theorem dX6_serves_6 : decode cX6_serves 6 = .ok (.istore_n 2, 1) := by decide +kernel
theorem dX6_serves_7 : decode cX6_serves 7 = .ok (.aload_n 0, 1) := by decide +kernel
theorem dX6_serves_8 : decode cX6_serves 8 = .ok (.getfield 29, 3) := by decide +kernel
theorem dX6_serves_11 : decode cX6_serves 11 = .ok (.iload_n 1, 1) := by decide +kernel
theorem dX6_serves_12 : decode cX6_serves 12 = .ok (.aload_n 0, 1) := by decide +kernel
theorem dX6_serves_13 : decode cX6_serves 13 = .ok (.getfield 26, 3) := by decide +kernel
theorem dX6_serves_16 : decode cX6_serves 16 = .ok (.iload_n 1, 1) := by decide +kernel
theorem dX6_serves_17 : decode cX6_serves 17 = .ok (.iaload, 1) := by decide +kernel
theorem dX6_serves_18 : decode cX6_serves 18 = .ok (.iload_n 2, 1) := by decide +kernel
theorem dX6_serves_19 : decode cX6_serves 19 = .ok (.if_icmp .le 12, 3) := by decide +kernel
theorem dX6_serves_22 : decode cX6_serves 22 = .ok (.aload_n 0, 1) := by decide +kernel
theorem dX6_serves_23 : decode cX6_serves 23 = .ok (.getfield 26, 3) := by decide +kernel
theorem dX6_serves_26 : decode cX6_serves 26 = .ok (.iload_n 1, 1) := by decide +kernel
theorem dX6_serves_27 : decode cX6_serves 27 = .ok (.iaload, 1) := by decide +kernel
theorem dX6_serves_28 : decode cX6_serves 28 = .ok (.goto 4, 3) := by decide +kernel
theorem dX6_serves_31 : decode cX6_serves 31 = .ok (.iload_n 2, 1) := by decide +kernel
theorem dX6_serves_32 : decode cX6_serves 32 = .ok (.iastore, 1) := by decide +kernel
theorem dX6_serves_33 : decode cX6_serves 33 = .ok (.aload_n 0, 1) := by decide +kernel
theorem dX6_serves_34 : decode cX6_serves 34 = .ok (.getfield 29, 3) := by decide +kernel
theorem dX6_serves_37 : decode cX6_serves 37 = .ok (.iload_n 1, 1) := by decide +kernel
theorem dX6_serves_38 : decode cX6_serves 38 = .ok (.iaload, 1) := by decide +kernel
theorem dX6_serves_39 : decode cX6_serves 39 = .ok (.iload_n 2, 1) := by decide +kernel
theorem dX6_serves_40 : decode cX6_serves 40 = .ok (.if_icmp .le 23, 3) := by decide +kernel
theorem dX6_serves_43 : decode cX6_serves 43 = .ok (.aload_n 0, 1) := by decide +kernel
theorem dX6_serves_44 : decode cX6_serves 44 = .ok (.invokevirtual 90, 3) := by decide +kernel
theorem dX6_serves_47 : decode cX6_serves 47 = .ok (.ifCond .ne 16, 3) := by decide +kernel
theorem dX6_serves_50 : decode cX6_serves 50 = .ok (.aload_n 0, 1) := by decide +kernel
theorem dX6_serves_51 : decode cX6_serves 51 = .ok (.getfield 29, 3) := by decide +kernel
theorem dX6_serves_54 : decode cX6_serves 54 = .ok (.iload_n 1, 1) := by decide +kernel
theorem dX6_serves_55 : decode cX6_serves 55 = .ok (.dup2, 1) := by decide +kernel
theorem dX6_serves_56 : decode cX6_serves 56 = .ok (.iaload, 1) := by decide +kernel
theorem dX6_serves_57 : decode cX6_serves 57 = .ok (.iconst 1, 1) := by decide +kernel
theorem dX6_serves_58 : decode cX6_serves 58 = .ok (.isub, 1) := by decide +kernel
theorem dX6_serves_59 : decode cX6_serves 59 = .ok (.iastore, 1) := by decide +kernel
theorem dX6_serves_60 : decode cX6_serves 60 = .ok (.goto (-27), 3) := by decide +kernel
theorem dX6_serves_63 : decode cX6_serves 63 = .ok (.return_, 1) := by decide +kernel
set_option maxRecDepth 20000 in
theorem ggX6_proportions_X6_isPossible : GoodIn wsX6_proportions wsX6_isPossible := goodIn_r _ [8, 1, 9, 2, 10, 11, 12, 13, 7, 14, 15, 16, 17, 18, 19, 20, 21, 22, 23, 24, 25, 26] (by decide +kernel) (by decide +kernel)
set_option maxRecDepth 20000 in
theorem gX6_proportions_X6_isPossible : GoodIn wsX6_proportions (wsV RX6 90 RX6 yX6_isPossible wsX6_isPossible) := goodIn_app (goodIn_of _ (by decide +kernel)) ggX6_proportions_X6_isPossible
theorem dX6_proportions_0 : decode cX6_proportions 0 = .ok (.bipush 100, 2) := by decide +kernel
theorem dX6_proportions_2 : decode cX6_proportions 2 = .ok (.istore_n 1, 1) := by decide +kernel
theorem dX6_proportions_3 : decode cX6_proportions 3 = .ok (.iconst 0, 1) := by decide +kernel
theorem dX6_proportions_4 : decode cX6_proportions 4 = .ok (.istore_n 2, 1) := by decide +kernel
theorem dX6_proportions_5 : decode cX6_proportions 5 = .ok (.iload_n 2, 1) := by decide +kernel
theorem dX6_proportions_6 : decode cX6_proportions 6 = .ok (.ifCond .ne 49, 3) := by decide +kernel
theorem dX6_proportions_9 : decode cX6_proportions 9 = .ok (.iconst 0, 1) := by decide +kernel
theorem dX6_proportions_10 : decode cX6_proportions 10 = .ok (.istore_n 3, 1) := by decide +kernel
theorem dX6_proportions_11 : decode cX6_proportions 11 = .ok (.iload_n 3, 1) := by decide +kernel
theorem dX6_proportions_12 : decode cX6_proportions 12 = .ok (.aload_n 0, 1) := by decide +kernel
theorem dX6_proportions_13 : decode cX6_proportions 13 = .ok (.getfield 7, 3) := by decide +kernel
theorem dX6_proportions_16 : decode cX6_proportions 16 = .ok (.iconst 2, 1) := by decide +kernel
theorem dX6_proportions_17 : decode cX6_proportions 17 = .ok (.iaload, 1) := by decide +kernel
theorem dX6_proportions_18 : decode cX6_proportions 18 = .ok (.if_icmp .ge 26, 3) := by decide +kernel
theorem dX6_proportions_21 : decode cX6_proportions 21 = .ok (.aload_n 0, 1) := by decide +kernel
theorem dX6_proportions_22 : decode cX6_proportions 22 = .ok (.getfield 29, 3) := by decide +kernel
theorem dX6_proportions_25 : decode cX6_proportions 25 = .ok (.iload_n 3, 1) := by decide +kernel
theorem dX6_proportions_26 : decode cX6_proportions 26 = .ok (.aload_n 0, 1) := by decide +kernel
theorem dX6_proportions_27 : decode cX6_proportions 27 = .ok (.getfield 26, 3) := by decide +kernel
theorem dX6_proportions_30 : decode cX6_proportions 30 = .ok (.iload_n 3, 1) := by decide +kernel
theorem dX6_proportions_31 : decode cX6_proportions 31 = .ok (.iaload, 1) := by decide +kernel
theorem dX6_proportions_32 : decode cX6_proportions 32 = .ok (.iload_n 1, 1) := by decide +kernel
theorem dX6_proportions_33 : decode cX6_proportions 33 = .ok (.imul, 1) := by decide +kernel
theorem dX6_proportions_34 : decode cX6_proportions 34 = .ok (.bipush 100, 2) := by decide +kernel
theorem dX6_proportions_36 : decode cX6_proportions 36 = .ok (.idiv, 1) := by decide +kernel
theorem dX6_proportions_37 : decode cX6_proportions 37 = .ok (.iastore, 1) := by decide +kernel
theorem dX6_proportions_38 : decode cX6_proportions 38 = .ok (.iinc 3 1, 3) := by decide +kernel
theorem dX6_proportions_41 : decode cX6_proportions 41 = .ok (.goto (-30), 3) := by decide +kernel
theorem dX6_proportions_44 : decode cX6_proportions 44 = .ok (.aload_n 0, 1) := by decide +kernel
theorem dX6_proportions_45 : decode cX6_proportions 45 = .ok (.invokevirtual 90, 3) := by decide +kernel
theorem dX6_proportions_48 : decode cX6_proportions 48 = .ok (.istore_n 2, 1) := by decide +kernel
theorem dX6_proportions_49 : decode cX6_proportions 49 = .ok (.iinc 1 (-1), 3) := by decide +kernel
theorem dX6_proportions_52 : decode cX6_proportions 52 = .ok (.goto (-47), 3) := by decide +kernel
theorem dX6_proportions_55 : decode cX6_proportions 55 = .ok (.return_, 1) := by decide +kernel
set_option maxRecDepth 20000 in
theorem ggX6_distributes_X6_findAsked : GoodIn wsX6_distributes wsX6_findAsked := goodIn_r _ [7, 1, 8, 9, 10, 11, 6, 12, 13, 14, 15, 16, 17, 18, 19, 20, 21, 22, 23, 24, 25, 26, 49, 50, 51, 52, 53, 54, 55, 56, 57, 58, 59, 60] (by decide +kernel) (by decide +kernel)
set_option maxRecDepth 20000 in
theorem gX6_distributes_X6_findAsked : GoodIn wsX6_distributes (wsV RX6 94 RX6 yX6_findAsked wsX6_findAsked) := goodIn_app (goodIn_of _ (by decide +kernel)) ggX6_distributes_X6_findAsked
set_option maxRecDepth 20000 in
theorem ggX6_distributes_X6_turnNow : GoodIn wsX6_distributes wsX6_turnNow := goodIn_r _ [12, 1, 49, 50, 51, 52, 53, 54, 55, 56, 57, 58, 59, 60] (by decide +kernel) (by decide +kernel)
set_option maxRecDepth 20000 in
theorem gX6_distributes_X6_turnNow : GoodIn wsX6_distributes (wsV RX6 84 RX6 yX6_turnNow wsX6_turnNow) := goodIn_app (goodIn_of _ (by decide +kernel)) ggX6_distributes_X6_turnNow
set_option maxRecDepth 20000 in
theorem ggX6_distributes_X6_proportions : GoodIn wsX6_distributes wsX6_proportions := goodIn_r _ [30, 1, 2, 8, 31, 32, 33, 6, 34, 35, 36, 17, 18, 19, 20, 49, 50, 51, 52, 53, 54, 55, 56, 57, 58, 59, 60] (by decide +kernel) (by decide +kernel)
set_option maxRecDepth 20000 in
theorem gX6_distributes_X6_proportions : GoodIn wsX6_distributes (wsV RX6 97 RX6 yX6_proportions wsX6_proportions) := goodIn_app (goodIn_of _ (by decide +kernel)) ggX6_distributes_X6_proportions
set_option maxRecDepth 20000 in
theorem ggX6_distributes_X6_serves : GoodIn wsX6_distributes wsX6_serves := goodIn_r _ [40, 2, 8, 31, 32, 33, 6, 34, 1, 35, 36, 17, 18, 19, 20, 49, 50, 51, 52, 53, 54, 55, 56, 57, 58, 59, 60] (by decide +kernel) (by decide +kernel)
set_option maxRecDepth 20000 in
theorem gX6_distributes_X6_serves : GoodIn wsX6_distributes (wsV RX6 100 RX6 yX6_serves wsX6_serves) := goodIn_app (goodIn_of _ (by decide +kernel)) ggX6_distributes_X6_serves
set_option maxRecDepth 20000 in
theorem ggX6_distributes_X6_ranked : GoodIn wsX6_distributes wsX6_ranked := goodIn_r _ [44, 1, 45, 46, 47, 6, 48, 49, 50, 51, 52, 53, 54, 55, 56, 57, 58, 59, 60] (by decide +kernel) (by decide +kernel)
set_option maxRecDepth 20000 in
theorem gX6_distributes_X6_ranked : GoodIn wsX6_distributes (wsV RX6 76 RX6 yX6_ranked wsX6_ranked) := goodIn_app (goodIn_of _ (by decide +kernel)) ggX6_distributes_X6_ranked
set_option maxRecDepth 20000 in
theorem ggX6_distributes_X6_isPossible : GoodIn wsX6_distributes wsX6_isPossible := goodIn_r _ [34, 1, 35, 2, 36, 17, 18, 19, 6, 20, 49, 50, 51, 52, 53, 54, 55, 56, 57, 58, 59, 60] (by decide +kernel) (by decide +kernel)
set_option maxRecDepth 20000 in
theorem gX6_distributes_X6_isPossible : GoodIn wsX6_distributes (wsV RX6 90 RX6 yX6_isPossible wsX6_isPossible) := goodIn_app (goodIn_of _ (by decide +kernel)) ggX6_distributes_X6_isPossible
theorem dX6_distributes_0 : decode cX6_distributes 0 = .ok (.aload_n 0, 1) := by decide +kernel
theorem dX6_distributes_1 : decode cX6_distributes 1 = .ok (.invokevirtual 94, 3) := by decide +kernel
theorem dX6_distributes_4 : decode cX6_distributes 4 = .ok (.aload_n 0, 1) := by decide +kernel
theorem dX6_distributes_5 : decode cX6_distributes 5 = .ok (.invokevirtual 84, 3) := by decide +kernel
theorem dX6_distributes_8 : decode cX6_distributes 8 = .ok (.istore_n 1, 1) := by decide +kernel
theorem dX6_distributes_9 : decode cX6_distributes 9 = .ok (.iconst 0, 1) := by decide +kernel
theorem dX6_distributes_10 : decode cX6_distributes 10 = .ok (.istore_n 2, 1) := by decide +kernel
theorem dX6_distributes_11 : decode cX6_distributes 11 = .ok (.iload_n 2, 1) := by decide +kernel
theorem dX6_distributes_12 : decode cX6_distributes 12 = .ok (.aload_n 0, 1) := by decide +kernel
theorem dX6_distributes_13 : decode cX6_distributes 13 = .ok (.getfield 7, 3) := by decide +kernel
theorem dX6_distributes_16 : decode cX6_distributes 16 = .ok (.iconst 2, 1) := by decide +kernel
theorem dX6_distributes_17 : decode cX6_distributes 17 = .ok (.iaload, 1) := by decide +kernel
theorem dX6_distributes_18 : decode cX6_distributes 18 = .ok (.if_icmp .ge 16, 3) := by decide +kernel
theorem dX6_distributes_21 : decode cX6_distributes 21 = .ok (.aload_n 0, 1) := by decide +kernel
theorem dX6_distributes_22 : decode cX6_distributes 22 = .ok (.getfield 29, 3) := by decide +kernel
theorem dX6_distributes_25 : decode cX6_distributes 25 = .ok (.iload_n 2, 1) := by decide +kernel
theorem dX6_distributes_26 : decode cX6_distributes 26 = .ok (.iconst 0, 1) := by decide +kernel
theorem dX6_distributes_27 : decode cX6_distributes 27 = .ok (.iastore, 1) := by decide +kernel
theorem dX6_distributes_28 : decode cX6_distributes 28 = .ok (.iinc 2 1, 3) := by decide +kernel
theorem dX6_distributes_31 : decode cX6_distributes 31 = .ok (.goto (-20), 3) := by decide +kernel
theorem dX6_distributes_34 : decode cX6_distributes 34 = .ok (.aload_n 0, 1) := by decide +kernel
theorem dX6_distributes_35 : decode cX6_distributes 35 = .ok (.getfield 7, 3) := by decide +kernel
theorem dX6_distributes_38 : decode cX6_distributes 38 = .ok (.iconst 3, 1) := by decide +kernel
theorem dX6_distributes_39 : decode cX6_distributes 39 = .ok (.iaload, 1) := by decide +kernel
theorem dX6_distributes_40 : decode cX6_distributes 40 = .ok (.iconst 2, 1) := by decide +kernel
theorem dX6_distributes_41 : decode cX6_distributes 41 = .ok (.if_icmp .ne 7, 3) := by decide +kernel
theorem dX6_distributes_44 : decode cX6_distributes 44 = .ok (.aload_n 0, 1) := by decide +kernel
theorem dX6_distributes_45 : decode cX6_distributes 45 = .ok (.invokevirtual 97, 3) := by decide +kernel
theorem dX6_distributes_48 : decode cX6_distributes 48 = .ok (.iload_n 1, 1) := by decide +kernel
theorem dX6_distributes_49 : decode cX6_distributes 49 = .ok (.ifCond .lt 8, 3) := by decide +kernel
theorem dX6_distributes_52 : decode cX6_distributes 52 = .ok (.aload_n 0, 1) := by decide +kernel
theorem dX6_distributes_53 : decode cX6_distributes 53 = .ok (.iload_n 1, 1) := by decide +kernel
theorem dX6_distributes_54 : decode cX6_distributes 54 = .ok (.invokevirtual 100, 3) := by decide +kernel
theorem dX6_distributes_57 : decode cX6_distributes 57 = .ok (.iconst 0, 1) := by decide +kernel
theorem dX6_distributes_58 : decode cX6_distributes 58 = .ok (.istore_n 2, 1) := by decide +kernel
theorem dX6_distributes_59 : decode cX6_distributes 59 = .ok (.iload_n 2, 1) := by decide +kernel
theorem dX6_distributes_60 : decode cX6_distributes 60 = .ok (.aload_n 0, 1) := by decide +kernel
theorem dX6_distributes_61 : decode cX6_distributes 61 = .ok (.getfield 7, 3) := by decide +kernel
theorem dX6_distributes_64 : decode cX6_distributes 64 = .ok (.iconst 2, 1) := by decide +kernel
theorem dX6_distributes_65 : decode cX6_distributes 65 = .ok (.iaload, 1) := by decide +kernel
theorem dX6_distributes_66 : decode cX6_distributes 66 = .ok (.if_icmp .ge 25, 3) := by decide +kernel
theorem dX6_distributes_69 : decode cX6_distributes 69 = .ok (.aload_n 0, 1) := by decide +kernel
theorem dX6_distributes_70 : decode cX6_distributes 70 = .ok (.iload_n 2, 1) := by decide +kernel
theorem dX6_distributes_71 : decode cX6_distributes 71 = .ok (.invokevirtual 76, 3) := by decide +kernel
theorem dX6_distributes_74 : decode cX6_distributes 74 = .ok (.istore_n 3, 1) := by decide +kernel
theorem dX6_distributes_75 : decode cX6_distributes 75 = .ok (.iload_n 3, 1) := by decide +kernel
theorem dX6_distributes_76 : decode cX6_distributes 76 = .ok (.iload_n 1, 1) := by decide +kernel
theorem dX6_distributes_77 : decode cX6_distributes 77 = .ok (.if_icmp .eq 8, 3) := by decide +kernel
theorem dX6_distributes_80 : decode cX6_distributes 80 = .ok (.aload_n 0, 1) := by decide +kernel
theorem dX6_distributes_81 : decode cX6_distributes 81 = .ok (.iload_n 3, 1) := by decide +kernel
theorem dX6_distributes_82 : decode cX6_distributes 82 = .ok (.invokevirtual 100, 3) := by decide +kernel
theorem dX6_distributes_85 : decode cX6_distributes 85 = .ok (.iinc 2 1, 3) := by decide +kernel
theorem dX6_distributes_88 : decode cX6_distributes 88 = .ok (.goto (-29), 3) := by decide +kernel
theorem dX6_distributes_91 : decode cX6_distributes 91 = .ok (.aload_n 0, 1) := by decide +kernel
theorem dX6_distributes_92 : decode cX6_distributes 92 = .ok (.invokevirtual 90, 3) := by decide +kernel
theorem dX6_distributes_95 : decode cX6_distributes 95 = .ok (.istore_n 2, 1) := by decide +kernel
theorem dX6_distributes_96 : decode cX6_distributes 96 = .ok (.return_, 1) := by decide +kernel
theorem dX6_time_0 : decode cX6_time 0 = .ok (.aload_n 0, 1) := by decide +kernel
theorem dX6_time_1 : decode cX6_time 1 = .ok (.getfield 7, 3) := by decide +kernel
theorem dX6_time_4 : decode cX6_time 4 = .ok (.iconst 0, 1) := by decide +kernel
theorem dX6_time_5 : decode cX6_time 5 = .ok (.iaload, 1) := by decide +kernel
theorem dX6_time_6 : decode cX6_time 6 = .ok (.ireturn, 1) := by decide +kernel
set_option maxRecDepth 20000 in
theorem ggX6_asks_X6_isUser : GoodIn wsX6_asks wsX6_isUser := goodIn_r _ [6, 7, 8, 9, 5, 10, 30, 31, 32, 33, 34, 35, 36, 37, 38, 39, 40, 41] (by decide +kernel) (by decide +kernel)
set_option maxRecDepth 20000 in
theorem gX6_asks_X6_isUser : GoodIn wsX6_asks (wsV RX6 64 RX6 yX6_isUser wsX6_isUser) := goodIn_app (goodIn_of _ (by decide +kernel)) ggX6_asks_X6_isUser
set_option maxRecDepth 20000 in
theorem ggX6_asks_X6_findAsked : GoodIn wsX6_asks wsX6_findAsked := goodIn_r _ [14, 7, 1, 15, 16, 17, 5, 18, 19, 20, 21, 22, 23, 24, 25, 26, 8, 9, 10, 27, 28, 29, 30, 31, 32, 33, 34, 35, 36, 37, 38, 39, 40, 41] (by decide +kernel) (by decide +kernel)
set_option maxRecDepth 20000 in
theorem gX6_asks_X6_findAsked : GoodIn wsX6_asks (wsV RX6 94 RX6 yX6_findAsked wsX6_findAsked) := goodIn_app (goodIn_of _ (by decide +kernel)) ggX6_asks_X6_findAsked
theorem dX6_asks_0 : decode cX6_asks 0 = .ok (.aload_n 0, 1) := by decide +kernel
theorem dX6_asks_1 : decode cX6_asks 1 = .ok (.iload_n 1, 1) := by decide +kernel
theorem dX6_asks_2 : decode cX6_asks 2 = .ok (.invokevirtual 64, 3) := by decide +kernel
theorem dX6_asks_5 : decode cX6_asks 5 = .ok (.ifCond .ne 6, 3) := by decide +kernel
theorem dX6_asks_8 : decode cX6_asks 8 = .ok (.bipush (-101), 2) := by decide +kernel
theorem dX6_asks_10 : decode cX6_asks 10 = .ok (.ireturn, 1) := by decide +kernel
theorem dX6_asks_11 : decode cX6_asks 11 = .ok (.aload_n 0, 1) := by decide +kernel
theorem dX6_asks_12 : decode cX6_asks 12 = .ok (.invokevirtual 94, 3) := by decide +kernel
theorem dX6_asks_15 : decode cX6_asks 15 = .ok (.aload_n 0, 1) := by decide +kernel
theorem dX6_asks_16 : decode cX6_asks 16 = .ok (.getfield 26, 3) := by decide +kernel
theorem dX6_asks_19 : decode cX6_asks 19 = .ok (.iload_n 1, 1) := by decide +kernel
theorem dX6_asks_20 : decode cX6_asks 20 = .ok (.iaload, 1) := by decide +kernel
theorem dX6_asks_21 : decode cX6_asks 21 = .ok (.ireturn, 1) := by decide +kernel
set_option maxRecDepth 20000 in
theorem ggX6_gets_X6_isUser : GoodIn wsX6_gets wsX6_isUser := goodIn_r _ [6, 7, 8, 9, 5, 10, 57, 58, 59, 60, 61, 62, 63, 64, 65, 66, 67, 68] (by decide +kernel) (by decide +kernel)
set_option maxRecDepth 20000 in
theorem gX6_gets_X6_isUser : GoodIn wsX6_gets (wsV RX6 64 RX6 yX6_isUser wsX6_isUser) := goodIn_app (goodIn_of _ (by decide +kernel)) ggX6_gets_X6_isUser
set_option maxRecDepth 20000 in
theorem ggX6_gets_X6_distributes : GoodIn wsX6_gets wsX6_distributes := goodIn_r _ [14, 7, 1, 15, 16, 17, 5, 18, 19, 20, 21, 22, 23, 24, 25, 26, 27, 28, 29, 30, 31, 8, 9, 10, 32, 33, 34, 35, 36, 37, 38, 39, 40, 41, 42, 43, 44, 45, 46, 47, 48, 49, 50, 51, 52, 53, 54, 55, 56, 57, 58, 59, 60, 61, 62, 63, 64, 65, 66, 67, 68] (by decide +kernel) (by decide +kernel)
set_option maxRecDepth 20000 in
theorem gX6_gets_X6_distributes : GoodIn wsX6_gets (wsV RX6 104 RX6 yX6_distributes wsX6_distributes) := goodIn_app (goodIn_of _ (by decide +kernel)) ggX6_gets_X6_distributes
theorem dX6_gets_0 : decode cX6_gets 0 = .ok (.aload_n 0, 1) := by decide +kernel
theorem dX6_gets_1 : decode cX6_gets 1 = .ok (.iload_n 1, 1) := by decide +kernel
theorem dX6_gets_2 : decode cX6_gets 2 = .ok (.invokevirtual 64, 3) := by decide +kernel
theorem dX6_gets_5 : decode cX6_gets 5 = .ok (.ifCond .ne 6, 3) := by decide +kernel
theorem dX6_gets_8 : decode cX6_gets 8 = .ok (.bipush (-101), 2) := by decide +kernel
theorem dX6_gets_10 : decode cX6_gets 10 = .ok (.ireturn, 1) := by decide +kernel
theorem dX6_gets_11 : decode cX6_gets 11 = .ok (.aload_n 0, 1) := by decide +kernel
theorem dX6_gets_12 : decode cX6_gets 12 = .ok (.invokevirtual 104, 3) := by decide +kernel
theorem dX6_gets_15 : decode cX6_gets 15 = .ok (.aload_n 0, 1) := by decide +kernel
theorem dX6_gets_16 : decode cX6_gets 16 = .ok (.getfield 29, 3) := by decide +kernel
theorem dX6_gets_19 : decode cX6_gets 19 = .ok (.iload_n 1, 1) := by decide +kernel
theorem dX6_gets_20 : decode cX6_gets 20 = .ok (.iaload, 1) := by decide +kernel
theorem dX6_gets_21 : decode cX6_gets 21 = .ok (.ireturn, 1) := by decide +kernel
set_option maxRecDepth 20000 in
theorem ggX6_inflow_X6_isDitch : GoodIn wsX6_inflow wsX6_isDitch := goodIn_r _ [6, 7, 8, 9, 5, 10, 57, 58, 59, 60, 61, 62, 63, 64, 65, 66, 67, 68] (by decide +kernel) (by decide +kernel)
set_option maxRecDepth 20000 in
theorem gX6_inflow_X6_isDitch : GoodIn wsX6_inflow (wsV RX6 45 RX6 yX6_isDitch wsX6_isDitch) := goodIn_app (goodIn_of _ (by decide +kernel)) ggX6_inflow_X6_isDitch
set_option maxRecDepth 20000 in
theorem ggX6_inflow_X6_distributes : GoodIn wsX6_inflow wsX6_distributes := goodIn_r _ [14, 7, 15, 16, 17, 18, 5, 19, 20, 21, 22, 23, 24, 25, 26, 27, 28, 29, 30, 31, 32, 8, 9, 10, 33, 34, 35, 36, 37, 38, 39, 40, 41, 42, 43, 44, 1, 45, 46, 47, 48, 49, 50, 51, 52, 53, 54, 55, 56, 57, 58, 59, 60, 61, 62, 63, 64, 65, 66, 67, 68] (by decide +kernel) (by decide +kernel)
set_option maxRecDepth 20000 in
theorem gX6_inflow_X6_distributes : GoodIn wsX6_inflow (wsV RX6 104 RX6 yX6_distributes wsX6_distributes) := goodIn_app (goodIn_of _ (by decide +kernel)) ggX6_inflow_X6_distributes
theorem dX6_inflow_0 : decode cX6_inflow 0 = .ok (.aload_n 0, 1) := by decide +kernel
theorem dX6_inflow_1 : decode cX6_inflow 1 = .ok (.iload_n 1, 1) := by decide +kernel
theorem dX6_inflow_2 : decode cX6_inflow 2 = .ok (.invokevirtual 45, 3) := by decide +kernel
theorem dX6_inflow_5 : decode cX6_inflow 5 = .ok (.ifCond .ne 6, 3) := by decide +kernel
theorem dX6_inflow_8 : decode cX6_inflow 8 = .ok (.bipush (-101), 2) := by decide +kernel
theorem dX6_inflow_10 : decode cX6_inflow 10 = .ok (.ireturn, 1) := by decide +kernel
theorem dX6_inflow_11 : decode cX6_inflow 11 = .ok (.aload_n 0, 1) := by decide +kernel
theorem dX6_inflow_12 : decode cX6_inflow 12 = .ok (.invokevirtual 104, 3) := by decide +kernel
theorem dX6_inflow_15 : decode cX6_inflow 15 = .ok (.aload_n 0, 1) := by decide +kernel
theorem dX6_inflow_16 : decode cX6_inflow 16 = .ok (.getfield 32, 3) := by decide +kernel
theorem dX6_inflow_19 : decode cX6_inflow 19 = .ok (.iload_n 1, 1) := by decide +kernel
theorem dX6_inflow_20 : decode cX6_inflow 20 = .ok (.iaload, 1) := by decide +kernel
theorem dX6_inflow_21 : decode cX6_inflow 21 = .ok (.ireturn, 1) := by decide +kernel
set_option maxRecDepth 20000 in
theorem ggX6_loses_X6_isDitch : GoodIn wsX6_loses wsX6_isDitch := goodIn_r _ [7, 8, 9, 10, 6, 11, 57, 58, 59, 60, 61, 62, 63, 64, 65, 66, 67, 68] (by decide +kernel) (by decide +kernel)
set_option maxRecDepth 20000 in
theorem gX6_loses_X6_isDitch : GoodIn wsX6_loses (wsV RX6 45 RX6 yX6_isDitch wsX6_isDitch) := goodIn_app (goodIn_of _ (by decide +kernel)) ggX6_loses_X6_isDitch
set_option maxRecDepth 20000 in
theorem ggX6_loses_X6_distributes : GoodIn wsX6_loses wsX6_distributes := goodIn_r _ [15, 8, 16, 17, 18, 19, 6, 20, 21, 22, 23, 24, 25, 26, 27, 28, 29, 30, 31, 32, 33, 9, 10, 11, 34, 35, 36, 37, 38, 39, 40, 41, 42, 43, 44, 2, 1, 45, 46, 47, 48, 49, 50, 51, 52, 53, 54, 55, 56, 57, 58, 59, 60, 61, 62, 63, 64, 65, 66, 67, 68] (by decide +kernel) (by decide +kernel)
set_option maxRecDepth 20000 in
theorem gX6_loses_X6_distributes : GoodIn wsX6_loses (wsV RX6 104 RX6 yX6_distributes wsX6_distributes) := goodIn_app (goodIn_of _ (by decide +kernel)) ggX6_loses_X6_distributes
theorem dX6_loses_0 : decode cX6_loses 0 = .ok (.aload_n 0, 1) := by decide +kernel
theorem dX6_loses_1 : decode cX6_loses 1 = .ok (.iload_n 1, 1) := by decide +kernel
theorem dX6_loses_2 : decode cX6_loses 2 = .ok (.invokevirtual 45, 3) := by decide +kernel
theorem dX6_loses_5 : decode cX6_loses 5 = .ok (.ifCond .ne 6, 3) := by decide +kernel
theorem dX6_loses_8 : decode cX6_loses 8 = .ok (.bipush (-101), 2) := by decide +kernel
theorem dX6_loses_10 : decode cX6_loses 10 = .ok (.ireturn, 1) := by decide +kernel
theorem dX6_loses_11 : decode cX6_loses 11 = .ok (.aload_n 0, 1) := by decide +kernel
theorem dX6_loses_12 : decode cX6_loses 12 = .ok (.invokevirtual 104, 3) := by decide +kernel
theorem dX6_loses_15 : decode cX6_loses 15 = .ok (.aload_n 0, 1) := by decide +kernel
theorem dX6_loses_16 : decode cX6_loses 16 = .ok (.getfield 32, 3) := by decide +kernel
theorem dX6_loses_19 : decode cX6_loses 19 = .ok (.iload_n 1, 1) := by decide +kernel
theorem dX6_loses_20 : decode cX6_loses 20 = .ok (.iaload, 1) := by decide +kernel
theorem dX6_loses_21 : decode cX6_loses 21 = .ok (.aload_n 0, 1) := by decide +kernel
theorem dX6_loses_22 : decode cX6_loses 22 = .ok (.getfield 35, 3) := by decide +kernel
theorem dX6_loses_25 : decode cX6_loses 25 = .ok (.iload_n 1, 1) := by decide +kernel
theorem dX6_loses_26 : decode cX6_loses 26 = .ok (.iaload, 1) := by decide +kernel
theorem dX6_loses_27 : decode cX6_loses 27 = .ok (.isub, 1) := by decide +kernel
theorem dX6_loses_28 : decode cX6_loses 28 = .ok (.ireturn, 1) := by decide +kernel
set_option maxRecDepth 20000 in
theorem ggX6_turn_X6_turnNow : GoodIn wsX6_turn wsX6_turnNow := goodIn_r _ [5, 6, 7, 8, 9, 10, 11, 12, 13, 14, 15, 16, 17, 18] (by decide +kernel) (by decide +kernel)
set_option maxRecDepth 20000 in
theorem gX6_turn_X6_turnNow : GoodIn wsX6_turn (wsV RX6 84 RX6 yX6_turnNow wsX6_turnNow) := goodIn_app (goodIn_of _ (by decide +kernel)) ggX6_turn_X6_turnNow
theorem dX6_turn_0 : decode cX6_turn 0 = .ok (.aload_n 0, 1) := by decide +kernel
theorem dX6_turn_1 : decode cX6_turn 1 = .ok (.invokevirtual 84, 3) := by decide +kernel
theorem dX6_turn_4 : decode cX6_turn 4 = .ok (.istore_n 1, 1) := by decide +kernel
theorem dX6_turn_5 : decode cX6_turn 5 = .ok (.iload_n 1, 1) := by decide +kernel
theorem dX6_turn_6 : decode cX6_turn 6 = .ok (.ifCond .ge 8, 3) := by decide +kernel
theorem dX6_turn_9 : decode cX6_turn 9 = .ok (.bipush (-105), 2) := by decide +kernel
theorem dX6_turn_11 : decode cX6_turn 11 = .ok (.goto 4, 3) := by decide +kernel
theorem dX6_turn_14 : decode cX6_turn 14 = .ok (.iload_n 1, 1) := by decide +kernel
theorem dX6_turn_15 : decode cX6_turn 15 = .ok (.ireturn, 1) := by decide +kernel
set_option maxRecDepth 20000 in
theorem ggX6_limit_X6_isUser : GoodIn wsX6_limit wsX6_isUser := goodIn_r _ [9, 3, 10, 11, 8, 12, 57, 58, 59, 60, 61, 62, 63, 64, 65, 66, 67, 68] (by decide +kernel) (by decide +kernel)
set_option maxRecDepth 20000 in
theorem gX6_limit_X6_isUser : GoodIn wsX6_limit (wsV RX6 64 RX6 yX6_isUser wsX6_isUser) := goodIn_app (goodIn_of _ (by decide +kernel)) ggX6_limit_X6_isUser
set_option maxRecDepth 20000 in
theorem ggX6_limit_X6_distributes : GoodIn wsX6_limit wsX6_distributes := goodIn_r _ [16, 3, 1, 17, 18, 19, 8, 20, 2, 21, 22, 23, 24, 25, 26, 27, 28, 29, 30, 31, 32, 10, 11, 12, 33, 34, 35, 36, 37, 38, 39, 40, 41, 42, 43, 44, 4, 45, 46, 47, 48, 49, 50, 51, 52, 53, 54, 55, 56, 57, 58, 59, 60, 61, 62, 63, 64, 65, 66, 67, 68] (by decide +kernel) (by decide +kernel)
set_option maxRecDepth 20000 in
theorem gX6_limit_X6_distributes : GoodIn wsX6_limit (wsV RX6 104 RX6 yX6_distributes wsX6_distributes) := goodIn_app (goodIn_of _ (by decide +kernel)) ggX6_limit_X6_distributes
set_option maxRecDepth 20000 in
theorem ggX6_limit_X6_isPossible : GoodIn wsX6_limit wsX6_isPossible := goodIn_r _ [43, 3, 44, 1, 4, 29, 30, 31, 8, 32, 57, 58, 59, 60, 61, 62, 63, 64, 65, 66, 67, 68] (by decide +kernel) (by decide +kernel)
set_option maxRecDepth 20000 in
theorem gX6_limit_X6_isPossible : GoodIn wsX6_limit (wsV RX6 90 RX6 yX6_isPossible wsX6_isPossible) := goodIn_app (goodIn_of _ (by decide +kernel)) ggX6_limit_X6_isPossible
theorem dX6_limit_0 : decode cX6_limit 0 = .ok (.aload_n 0, 1) := by decide +kernel
theorem dX6_limit_1 : decode cX6_limit 1 = .ok (.iload_n 1, 1) := by decide +kernel
theorem dX6_limit_2 : decode cX6_limit 2 = .ok (.invokevirtual 64, 3) := by decide +kernel
theorem dX6_limit_5 : decode cX6_limit 5 = .ok (.ifCond .ne 6, 3) := by decide +kernel
theorem dX6_limit_8 : decode cX6_limit 8 = .ok (.bipush (-101), 2) := by decide +kernel
theorem dX6_limit_10 : decode cX6_limit 10 = .ok (.ireturn, 1) := by decide +kernel
theorem dX6_limit_11 : decode cX6_limit 11 = .ok (.aload_n 0, 1) := by decide +kernel
theorem dX6_limit_12 : decode cX6_limit 12 = .ok (.invokevirtual 104, 3) := by decide +kernel
theorem dX6_limit_15 : decode cX6_limit 15 = .ok (.aload_n 0, 1) := by decide +kernel
theorem dX6_limit_16 : decode cX6_limit 16 = .ok (.getfield 29, 3) := by decide +kernel
theorem dX6_limit_19 : decode cX6_limit 19 = .ok (.iload_n 1, 1) := by decide +kernel
theorem dX6_limit_20 : decode cX6_limit 20 = .ok (.iaload, 1) := by decide +kernel
theorem dX6_limit_21 : decode cX6_limit 21 = .ok (.aload_n 0, 1) := by decide +kernel
theorem dX6_limit_22 : decode cX6_limit 22 = .ok (.getfield 26, 3) := by decide +kernel
theorem dX6_limit_25 : decode cX6_limit 25 = .ok (.iload_n 1, 1) := by decide +kernel
theorem dX6_limit_26 : decode cX6_limit 26 = .ok (.iaload, 1) := by decide +kernel
theorem dX6_limit_27 : decode cX6_limit 27 = .ok (.if_icmp .lt 6, 3) := by decide +kernel
theorem dX6_limit_30 : decode cX6_limit 30 = .ok (.bipush (-103), 2) := by decide +kernel
theorem dX6_limit_32 : decode cX6_limit 32 = .ok (.ireturn, 1) := by decide +kernel
theorem dX6_limit_33 : decode cX6_limit 33 = .ok (.aload_n 0, 1) := by decide +kernel
theorem dX6_limit_34 : decode cX6_limit 34 = .ok (.getfield 29, 3) := by decide +kernel
theorem dX6_limit_37 : decode cX6_limit 37 = .ok (.iload_n 1, 1) := by decide +kernel
theorem dX6_limit_38 : decode cX6_limit 38 = .ok (.dup2, 1) := by decide +kernel
theorem dX6_limit_39 : decode cX6_limit 39 = .ok (.iaload, 1) := by decide +kernel
theorem dX6_limit_40 : decode cX6_limit 40 = .ok (.iconst 1, 1) := by decide +kernel
theorem dX6_limit_41 : decode cX6_limit 41 = .ok (.iadd, 1) := by decide +kernel
theorem dX6_limit_42 : decode cX6_limit 42 = .ok (.iastore, 1) := by decide +kernel
theorem dX6_limit_43 : decode cX6_limit 43 = .ok (.aload_n 0, 1) := by decide +kernel
theorem dX6_limit_44 : decode cX6_limit 44 = .ok (.invokevirtual 90, 3) := by decide +kernel
theorem dX6_limit_47 : decode cX6_limit 47 = .ok (.istore_n 2, 1) := by decide +kernel
theorem dX6_limit_48 : decode cX6_limit 48 = .ok (.aload_n 0, 1) := by decide +kernel
theorem dX6_limit_49 : decode cX6_limit 49 = .ok (.getfield 7, 3) := by decide +kernel
theorem dX6_limit_52 : decode cX6_limit 52 = .ok (.bipush 70, 2) := by decide +kernel
theorem dX6_limit_54 : decode cX6_limit 54 = .ok (.iload_n 1, 1) := by decide +kernel
theorem dX6_limit_55 : decode cX6_limit 55 = .ok (.iadd, 1) := by decide +kernel
theorem dX6_limit_56 : decode cX6_limit 56 = .ok (.iaload, 1) := by decide +kernel
theorem dX6_limit_57 : decode cX6_limit 57 = .ok (.istore_n 3, 1) := by decide +kernel
theorem dX6_limit_58 : decode cX6_limit 58 = .ok (.iload_n 3, 1) := by decide +kernel
theorem dX6_limit_59 : decode cX6_limit 59 = .ok (.ifCond .le 34, 3) := by decide +kernel
theorem dX6_limit_62 : decode cX6_limit 62 = .ok (.aload_n 0, 1) := by decide +kernel
theorem dX6_limit_63 : decode cX6_limit 63 = .ok (.getfield 32, 3) := by decide +kernel
theorem dX6_limit_66 : decode cX6_limit 66 = .ok (.iload_n 3, 1) := by decide +kernel
theorem dX6_limit_67 : decode cX6_limit 67 = .ok (.iaload, 1) := by decide +kernel
theorem dX6_limit_68 : decode cX6_limit 68 = .ok (.aload_n 0, 1) := by decide +kernel
theorem dX6_limit_69 : decode cX6_limit 69 = .ok (.getfield 7, 3) := by decide +kernel
theorem dX6_limit_72 : decode cX6_limit 72 = .ok (.bipush 50, 2) := by decide +kernel
theorem dX6_limit_74 : decode cX6_limit 74 = .ok (.iload_n 3, 1) := by decide +kernel
theorem dX6_limit_75 : decode cX6_limit 75 = .ok (.iadd, 1) := by decide +kernel
theorem dX6_limit_76 : decode cX6_limit 76 = .ok (.iaload, 1) := by decide +kernel
theorem dX6_limit_77 : decode cX6_limit 77 = .ok (.if_icmp .gt 16, 3) := by decide +kernel
theorem dX6_limit_80 : decode cX6_limit 80 = .ok (.aload_n 0, 1) := by decide +kernel
theorem dX6_limit_81 : decode cX6_limit 81 = .ok (.getfield 7, 3) := by decide +kernel
theorem dX6_limit_84 : decode cX6_limit 84 = .ok (.bipush 40, 2) := by decide +kernel
theorem dX6_limit_86 : decode cX6_limit 86 = .ok (.iload_n 3, 1) := by decide +kernel
theorem dX6_limit_87 : decode cX6_limit 87 = .ok (.iadd, 1) := by decide +kernel
theorem dX6_limit_88 : decode cX6_limit 88 = .ok (.iaload, 1) := by decide +kernel
theorem dX6_limit_89 : decode cX6_limit 89 = .ok (.istore_n 3, 1) := by decide +kernel
theorem dX6_limit_90 : decode cX6_limit 90 = .ok (.goto (-32), 3) := by decide +kernel
theorem dX6_limit_93 : decode cX6_limit 93 = .ok (.aload_n 0, 1) := by decide +kernel
theorem dX6_limit_94 : decode cX6_limit 94 = .ok (.getfield 32, 3) := by decide +kernel
theorem dX6_limit_97 : decode cX6_limit 97 = .ok (.iload_n 3, 1) := by decide +kernel
theorem dX6_limit_98 : decode cX6_limit 98 = .ok (.iaload, 1) := by decide +kernel
theorem dX6_limit_99 : decode cX6_limit 99 = .ok (.aload_n 0, 1) := by decide +kernel
theorem dX6_limit_100 : decode cX6_limit 100 = .ok (.getfield 7, 3) := by decide +kernel
theorem dX6_limit_103 : decode cX6_limit 103 = .ok (.bipush 50, 2) := by decide +kernel
theorem dX6_limit_105 : decode cX6_limit 105 = .ok (.iload_n 3, 1) := by decide +kernel
theorem dX6_limit_106 : decode cX6_limit 106 = .ok (.iadd, 1) := by decide +kernel
theorem dX6_limit_107 : decode cX6_limit 107 = .ok (.iaload, 1) := by decide +kernel
theorem dX6_limit_108 : decode cX6_limit 108 = .ok (.if_icmp .le 7, 3) := by decide +kernel
theorem dX6_limit_111 : decode cX6_limit 111 = .ok (.iload_n 3, 1) := by decide +kernel
theorem dX6_limit_112 : decode cX6_limit 112 = .ok (.goto 5, 3) := by decide +kernel
theorem dX6_limit_115 : decode cX6_limit 115 = .ok (.bipush (-105), 2) := by decide +kernel
theorem dX6_limit_117 : decode cX6_limit 117 = .ok (.ireturn, 1) := by decide +kernel
set_option maxRecDepth 20000 in
theorem ggX6_leastSupply_X6_isUser : GoodIn wsX6_leastSupply wsX6_isUser := goodIn_r _ [8, 1, 9, 10, 7, 11, 57, 58, 59, 60, 61, 62, 63, 64, 65, 66, 67, 68] (by decide +kernel) (by decide +kernel)
set_option maxRecDepth 20000 in
theorem gX6_leastSupply_X6_isUser : GoodIn wsX6_leastSupply (wsV RX6 64 RX6 yX6_isUser wsX6_isUser) := goodIn_app (goodIn_of _ (by decide +kernel)) ggX6_leastSupply_X6_isUser
set_option maxRecDepth 20000 in
theorem ggX6_leastSupply_X6_hour : GoodIn wsX6_leastSupply wsX6_hour := goodIn_r _ [15, 1, 57, 58, 59, 60, 61, 62, 63, 64, 65, 66, 67, 68] (by decide +kernel) (by decide +kernel)
set_option maxRecDepth 20000 in
theorem gX6_leastSupply_X6_hour : GoodIn wsX6_leastSupply (wsV RX6 80 RX6 yX6_hour wsX6_hour) := goodIn_app (goodIn_of _ (by decide +kernel)) ggX6_leastSupply_X6_hour
set_option maxRecDepth 20000 in
theorem ggX6_leastSupply_X6_distributes : GoodIn wsX6_leastSupply wsX6_distributes := goodIn_r _ [19, 1, 2, 20, 21, 22, 7, 23, 3, 24, 25, 26, 27, 28, 29, 30, 31, 12, 13, 14, 15, 9, 10, 11, 32, 33, 34, 35, 36, 37, 38, 39, 40, 41, 42, 43, 44, 45, 46, 47, 48, 49, 50, 51, 52, 53, 54, 55, 56, 57, 58, 59, 60, 61, 62, 63, 64, 65, 66, 67, 68] (by decide +kernel) (by decide +kernel)
set_option maxRecDepth 20000 in
theorem gX6_leastSupply_X6_distributes : GoodIn wsX6_leastSupply (wsV RX6 104 RX6 yX6_distributes wsX6_distributes) := goodIn_app (goodIn_of _ (by decide +kernel)) ggX6_leastSupply_X6_distributes
theorem dX6_leastSupply_0 : decode cX6_leastSupply 0 = .ok (.aload_n 0, 1) := by decide +kernel
theorem dX6_leastSupply_1 : decode cX6_leastSupply 1 = .ok (.iload_n 1, 1) := by decide +kernel
theorem dX6_leastSupply_2 : decode cX6_leastSupply 2 = .ok (.invokevirtual 64, 3) := by decide +kernel
theorem dX6_leastSupply_5 : decode cX6_leastSupply 5 = .ok (.ifCond .ne 6, 3) := by decide +kernel
theorem dX6_leastSupply_8 : decode cX6_leastSupply 8 = .ok (.bipush (-101), 2) := by decide +kernel
theorem dX6_leastSupply_10 : decode cX6_leastSupply 10 = .ok (.ireturn, 1) := by decide +kernel
theorem dX6_leastSupply_11 : decode cX6_leastSupply 11 = .ok (.bipush 12, 2) := by decide +kernel
theorem dX6_leastSupply_13 : decode cX6_leastSupply 13 = .ok (.aload_n 0, 1) := by decide +kernel
theorem dX6_leastSupply_14 : decode cX6_leastSupply 14 = .ok (.invokevirtual 80, 3) := by decide +kernel
theorem dX6_leastSupply_17 : decode cX6_leastSupply 17 = .ok (.iadd, 1) := by decide +kernel
theorem dX6_leastSupply_18 : decode cX6_leastSupply 18 = .ok (.istore_n 2, 1) := by decide +kernel
theorem dX6_leastSupply_19 : decode cX6_leastSupply 19 = .ok (.aload_n 0, 1) := by decide +kernel
theorem dX6_leastSupply_20 : decode cX6_leastSupply 20 = .ok (.getfield 7, 3) := by decide +kernel
theorem dX6_leastSupply_23 : decode cX6_leastSupply 23 = .ok (.iload_n 2, 1) := by decide +kernel
theorem dX6_leastSupply_24 : decode cX6_leastSupply 24 = .ok (.iaload, 1) := by decide +kernel
theorem dX6_leastSupply_25 : decode cX6_leastSupply 25 = .ok (.istore_n 3, 1) := by decide +kernel
theorem dX6_leastSupply_26 : decode cX6_leastSupply 26 = .ok (.bipush (-105), 2) := by decide +kernel
theorem dX6_leastSupply_28 : decode cX6_leastSupply 28 = .ok (.istore 4, 2) := by decide +kernel
theorem dX6_leastSupply_30 : decode cX6_leastSupply 30 = .ok (.iconst 0, 1) := by decide +kernel
theorem dX6_leastSupply_31 : decode cX6_leastSupply 31 = .ok (.istore 5, 2) := by decide +kernel
theorem dX6_leastSupply_33 : decode cX6_leastSupply 33 = .ok (.iload 5, 2) := by decide +kernel
theorem dX6_leastSupply_35 : decode cX6_leastSupply 35 = .ok (.sipush 200, 3) := by decide +kernel
theorem dX6_leastSupply_38 : decode cX6_leastSupply 38 = .ok (.if_icmp .gt 50, 3) := by decide +kernel
theorem dX6_leastSupply_41 : decode cX6_leastSupply 41 = .ok (.iload 4, 2) := by decide +kernel
theorem dX6_leastSupply_43 : decode cX6_leastSupply 43 = .ok (.ifCond .ge 45, 3) := by decide +kernel
theorem dX6_leastSupply_46 : decode cX6_leastSupply 46 = .ok (.aload_n 0, 1) := by decide +kernel
theorem dX6_leastSupply_47 : decode cX6_leastSupply 47 = .ok (.getfield 7, 3) := by decide +kernel
theorem dX6_leastSupply_50 : decode cX6_leastSupply 50 = .ok (.iload_n 2, 1) := by decide +kernel
theorem dX6_leastSupply_51 : decode cX6_leastSupply 51 = .ok (.iload 5, 2) := by decide +kernel
theorem dX6_leastSupply_53 : decode cX6_leastSupply 53 = .ok (.iastore, 1) := by decide +kernel
theorem dX6_leastSupply_54 : decode cX6_leastSupply 54 = .ok (.aload_n 0, 1) := by decide +kernel
