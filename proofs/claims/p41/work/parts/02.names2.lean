theorem dX5_judge_0 : decode cX5_judge 0 = .ok (.aload_n 0, 1) := by decide +kernel
theorem dX5_judge_1 : decode cX5_judge 1 = .ok (.getfield 30, 3) := by decide +kernel
theorem dX5_judge_4 : decode cX5_judge 4 = .ok (.aload_n 0, 1) := by decide +kernel
theorem dX5_judge_5 : decode cX5_judge 5 = .ok (.getfield 10, 3) := by decide +kernel
theorem dX5_judge_8 : decode cX5_judge 8 = .ok (.invokevirtual 151, 3) := by decide +kernel
theorem dX5_judge_11 : decode cX5_judge 11 = .ok (.aload_n 0, 1) := by decide +kernel
theorem dX5_judge_12 : decode cX5_judge 12 = .ok (.getfield 30, 3) := by decide +kernel
theorem dX5_judge_15 : decode cX5_judge 15 = .ok (.getfield 155, 3) := by decide +kernel
theorem dX5_judge_18 : decode cX5_judge 18 = .ok (.iload_n 2, 1) := by decide +kernel
theorem dX5_judge_19 : decode cX5_judge 19 = .ok (.iaload, 1) := by decide +kernel
theorem dX5_judge_20 : decode cX5_judge 20 = .ok (.istore_n 3, 1) := by decide +kernel
theorem dX5_judge_21 : decode cX5_judge 21 = .ok (.aload_n 0, 1) := by decide +kernel
theorem dX5_judge_22 : decode cX5_judge 22 = .ok (.getfield 30, 3) := by decide +kernel
theorem dX5_judge_25 : decode cX5_judge 25 = .ok (.iload_n 1, 1) := by decide +kernel
theorem dX5_judge_26 : decode cX5_judge 26 = .ok (.invokevirtual 165, 3) := by decide +kernel
theorem dX5_judge_29 : decode cX5_judge 29 = .ok (.ifCond .ne 7, 3) := by decide +kernel
theorem dX5_judge_32 : decode cX5_judge 32 = .ok (.iload_n 3, 1) := by decide +kernel
theorem dX5_judge_33 : decode cX5_judge 33 = .ok (.ifCond .ne 5, 3) := by decide +kernel
theorem dX5_judge_36 : decode cX5_judge 36 = .ok (.iconst 0, 1) := by decide +kernel
theorem dX5_judge_37 : decode cX5_judge 37 = .ok (.ireturn, 1) := by decide +kernel
theorem dX5_judge_38 : decode cX5_judge 38 = .ok (.aload_n 0, 1) := by decide +kernel
theorem dX5_judge_39 : decode cX5_judge 39 = .ok (.iload_n 1, 1) := by decide +kernel
theorem dX5_judge_40 : decode cX5_judge 40 = .ok (.iload_n 2, 1) := by decide +kernel
theorem dX5_judge_41 : decode cX5_judge 41 = .ok (.invokevirtual 197, 3) := by decide +kernel
theorem dX5_judge_44 : decode cX5_judge 44 = .ok (.istore 4, 2) := by decide +kernel
theorem dX5_judge_46 : decode cX5_judge 46 = .ok (.iload 4, 2) := by decide +kernel
theorem dX5_judge_48 : decode cX5_judge 48 = .ok (.ifCond .eq 20, 3) := by decide +kernel
theorem dX5_judge_51 : decode cX5_judge 51 = .ok (.bipush 100, 2) := by decide +kernel
theorem dX5_judge_53 : decode cX5_judge 53 = .ok (.iload 4, 2) := by decide +kernel
theorem dX5_judge_55 : decode cX5_judge 55 = .ok (.imul, 1) := by decide +kernel
theorem dX5_judge_56 : decode cX5_judge 56 = .ok (.aload_n 0, 1) := by decide +kernel
theorem dX5_judge_57 : decode cX5_judge 57 = .ok (.getfield 10, 3) := by decide +kernel
theorem dX5_judge_60 : decode cX5_judge 60 = .ok (.getfield 135, 3) := by decide +kernel
theorem dX5_judge_63 : decode cX5_judge 63 = .ok (.iload_n 3, 1) := by decide +kernel
theorem dX5_judge_64 : decode cX5_judge 64 = .ok (.imul, 1) := by decide +kernel
theorem dX5_judge_65 : decode cX5_judge 65 = .ok (.if_icmp .ge 7, 3) := by decide +kernel
theorem dX5_judge_68 : decode cX5_judge 68 = .ok (.iconst 1, 1) := by decide +kernel
theorem dX5_judge_69 : decode cX5_judge 69 = .ok (.goto 4, 3) := by decide +kernel
theorem dX5_judge_72 : decode cX5_judge 72 = .ok (.iconst 2, 1) := by decide +kernel
theorem dX5_judge_73 : decode cX5_judge 73 = .ok (.ireturn, 1) := by decide +kernel
theorem dX5_isWithin_0 : decode cX5_isWithin 0 = .ok (.iload_n 0, 1) := by decide +kernel
theorem dX5_isWithin_1 : decode cX5_isWithin 1 = .ok (.iload_n 1, 1) := by decide +kernel
theorem dX5_isWithin_2 : decode cX5_isWithin 2 = .ok (.if_icmp .lt 12, 3) := by decide +kernel
theorem dX5_isWithin_5 : decode cX5_isWithin 5 = .ok (.iload_n 0, 1) := by decide +kernel
theorem dX5_isWithin_6 : decode cX5_isWithin 6 = .ok (.iload_n 2, 1) := by decide +kernel
theorem dX5_isWithin_7 : decode cX5_isWithin 7 = .ok (.if_icmp .gt 7, 3) := by decide +kernel
theorem dX5_isWithin_10 : decode cX5_isWithin 10 = .ok (.iconst 1, 1) := by decide +kernel
theorem dX5_isWithin_11 : decode cX5_isWithin 11 = .ok (.goto 4, 3) := by decide +kernel
theorem dX5_isWithin_14 : decode cX5_isWithin 14 = .ok (.iconst 0, 1) := by decide +kernel
theorem dX5_isWithin_15 : decode cX5_isWithin 15 = .ok (.ireturn, 1) := by decide +kernel
set_option maxRecDepth 20000 in
theorem ggX5_areGateAndLoss_X5_isWithin : GoodIn wsX5_areGateAndLoss wsX5_isWithin := goodIn_r _ [4] (by decide +kernel) (by decide +kernel)
set_option maxRecDepth 20000 in
theorem gX5_areGateAndLoss_X5_isWithin : GoodIn wsX5_areGateAndLoss (va_wsS RX5 73 yX5_isWithin wsX5_isWithin) := goodIn_app (goodIn_of _ (by decide +kernel)) ggX5_areGateAndLoss_X5_isWithin
theorem dX5_areGateAndLoss_0 : decode cX5_areGateAndLoss 0 = .ok (.iload_n 0, 1) := by decide +kernel
theorem dX5_areGateAndLoss_1 : decode cX5_areGateAndLoss 1 = .ok (.iconst 1, 1) := by decide +kernel
theorem dX5_areGateAndLoss_2 : decode cX5_areGateAndLoss 2 = .ok (.sipush 200, 3) := by decide +kernel
theorem dX5_areGateAndLoss_5 : decode cX5_areGateAndLoss 5 = .ok (.invokestatic 73, 3) := by decide +kernel
theorem dX5_areGateAndLoss_8 : decode cX5_areGateAndLoss 8 = .ok (.ifCond .eq 17, 3) := by decide +kernel
theorem dX5_areGateAndLoss_11 : decode cX5_areGateAndLoss 11 = .ok (.iload_n 1, 1) := by decide +kernel
theorem dX5_areGateAndLoss_12 : decode cX5_areGateAndLoss 12 = .ok (.iconst 0, 1) := by decide +kernel
theorem dX5_areGateAndLoss_13 : decode cX5_areGateAndLoss 13 = .ok (.bipush 50, 2) := by decide +kernel
theorem dX5_areGateAndLoss_15 : decode cX5_areGateAndLoss 15 = .ok (.invokestatic 73, 3) := by decide +kernel
theorem dX5_areGateAndLoss_18 : decode cX5_areGateAndLoss 18 = .ok (.ifCond .eq 7, 3) := by decide +kernel
theorem dX5_areGateAndLoss_21 : decode cX5_areGateAndLoss 21 = .ok (.iconst 1, 1) := by decide +kernel
theorem dX5_areGateAndLoss_22 : decode cX5_areGateAndLoss 22 = .ok (.goto 4, 3) := by decide +kernel
theorem dX5_areGateAndLoss_25 : decode cX5_areGateAndLoss 25 = .ok (.iconst 0, 1) := by decide +kernel
theorem dX5_areGateAndLoss_26 : decode cX5_areGateAndLoss 26 = .ok (.ireturn, 1) := by decide +kernel
set_option maxRecDepth 20000 in
theorem ggX5_areHours_X5_isWithin : GoodIn wsX5_areHours wsX5_isWithin := goodIn_r _ [4] (by decide +kernel) (by decide +kernel)
set_option maxRecDepth 20000 in
theorem gX5_areHours_X5_isWithin : GoodIn wsX5_areHours (va_wsS RX5 73 yX5_isWithin wsX5_isWithin) := goodIn_app (goodIn_of _ (by decide +kernel)) ggX5_areHours_X5_isWithin
theorem dX5_areHours_0 : decode cX5_areHours 0 = .ok (.iload_n 0, 1) := by decide +kernel
theorem dX5_areHours_1 : decode cX5_areHours 1 = .ok (.iconst 0, 1) := by decide +kernel
theorem dX5_areHours_2 : decode cX5_areHours 2 = .ok (.bipush 23, 2) := by decide +kernel
theorem dX5_areHours_4 : decode cX5_areHours 4 = .ok (.invokestatic 73, 3) := by decide +kernel
theorem dX5_areHours_7 : decode cX5_areHours 7 = .ok (.ifCond .eq 18, 3) := by decide +kernel
theorem dX5_areHours_10 : decode cX5_areHours 10 = .ok (.iload_n 1, 1) := by decide +kernel
theorem dX5_areHours_11 : decode cX5_areHours 11 = .ok (.iload_n 0, 1) := by decide +kernel
theorem dX5_areHours_12 : decode cX5_areHours 12 = .ok (.if_icmp .le 13, 3) := by decide +kernel
theorem dX5_areHours_15 : decode cX5_areHours 15 = .ok (.iload_n 1, 1) := by decide +kernel
theorem dX5_areHours_16 : decode cX5_areHours 16 = .ok (.bipush 24, 2) := by decide +kernel
theorem dX5_areHours_18 : decode cX5_areHours 18 = .ok (.if_icmp .gt 7, 3) := by decide +kernel
theorem dX5_areHours_21 : decode cX5_areHours 21 = .ok (.iconst 1, 1) := by decide +kernel
theorem dX5_areHours_22 : decode cX5_areHours 22 = .ok (.goto 4, 3) := by decide +kernel
theorem dX5_areHours_25 : decode cX5_areHours 25 = .ok (.iconst 0, 1) := by decide +kernel
theorem dX5_areHours_26 : decode cX5_areHours 26 = .ok (.ireturn, 1) := by decide +kernel
theorem dJ9_floorMod_7cf53_0 : decode cJ9_floorMod_7cf53 0 = .ok (.iload_n 0, 1) := by decide +kernel
theorem dJ9_floorMod_7cf53_1 : decode cJ9_floorMod_7cf53 1 = .ok (.iload_n 1, 1) := by decide +kernel
theorem dJ9_floorMod_7cf53_2 : decode cJ9_floorMod_7cf53 2 = .ok (.irem, 1) := by decide +kernel
theorem dJ9_floorMod_7cf53_3 : decode cJ9_floorMod_7cf53 3 = .ok (.istore_n 2, 1) := by decide +kernel
theorem dJ9_floorMod_7cf53_4 : decode cJ9_floorMod_7cf53 4 = .ok (.iload_n 0, 1) := by decide +kernel
theorem dJ9_floorMod_7cf53_5 : decode cJ9_floorMod_7cf53 5 = .ok (.iload_n 1, 1) := by decide +kernel
theorem dJ9_floorMod_7cf53_6 : decode cJ9_floorMod_7cf53 6 = .ok (.ixor, 1) := by decide +kernel
theorem dJ9_floorMod_7cf53_7 : decode cJ9_floorMod_7cf53 7 = .ok (.ifCond .ge 11, 3) := by decide +kernel
theorem dJ9_floorMod_7cf53_10 : decode cJ9_floorMod_7cf53 10 = .ok (.iload_n 2, 1) := by decide +kernel
theorem dJ9_floorMod_7cf53_11 : decode cJ9_floorMod_7cf53 11 = .ok (.ifCond .eq 7, 3) := by decide +kernel
theorem dJ9_floorMod_7cf53_14 : decode cJ9_floorMod_7cf53 14 = .ok (.iload_n 2, 1) := by decide +kernel
theorem dJ9_floorMod_7cf53_15 : decode cJ9_floorMod_7cf53 15 = .ok (.iload_n 1, 1) := by decide +kernel
theorem dJ9_floorMod_7cf53_16 : decode cJ9_floorMod_7cf53 16 = .ok (.iadd, 1) := by decide +kernel
theorem dJ9_floorMod_7cf53_17 : decode cJ9_floorMod_7cf53 17 = .ok (.ireturn, 1) := by decide +kernel
theorem dJ9_floorMod_7cf53_18 : decode cJ9_floorMod_7cf53 18 = .ok (.iload_n 2, 1) := by decide +kernel
theorem dJ9_floorMod_7cf53_19 : decode cJ9_floorMod_7cf53 19 = .ok (.ireturn, 1) := by decide +kernel
theorem dJ9_max_7cf53_0 : decode cJ9_max_7cf53 0 = .ok (.iload_n 0, 1) := by decide +kernel
theorem dJ9_max_7cf53_1 : decode cJ9_max_7cf53 1 = .ok (.iload_n 1, 1) := by decide +kernel
theorem dJ9_max_7cf53_2 : decode cJ9_max_7cf53 2 = .ok (.if_icmp .lt 7, 3) := by decide +kernel
theorem dJ9_max_7cf53_5 : decode cJ9_max_7cf53 5 = .ok (.iload_n 0, 1) := by decide +kernel
theorem dJ9_max_7cf53_6 : decode cJ9_max_7cf53 6 = .ok (.goto 4, 3) := by decide +kernel
theorem dJ9_max_7cf53_9 : decode cJ9_max_7cf53 9 = .ok (.iload_n 1, 1) := by decide +kernel
theorem dJ9_max_7cf53_10 : decode cJ9_max_7cf53 10 = .ok (.ireturn, 1) := by decide +kernel
theorem dJ9_min_7cf53_0 : decode cJ9_min_7cf53 0 = .ok (.iload_n 0, 1) := by decide +kernel
theorem dJ9_min_7cf53_1 : decode cJ9_min_7cf53 1 = .ok (.iload_n 1, 1) := by decide +kernel
theorem dJ9_min_7cf53_2 : decode cJ9_min_7cf53 2 = .ok (.if_icmp .gt 7, 3) := by decide +kernel
theorem dJ9_min_7cf53_5 : decode cJ9_min_7cf53 5 = .ok (.iload_n 0, 1) := by decide +kernel
theorem dJ9_min_7cf53_6 : decode cJ9_min_7cf53 6 = .ok (.goto 4, 3) := by decide +kernel
theorem dJ9_min_7cf53_9 : decode cJ9_min_7cf53 9 = .ok (.iload_n 1, 1) := by decide +kernel
theorem dJ9_min_7cf53_10 : decode cJ9_min_7cf53 10 = .ok (.ireturn, 1) := by decide +kernel
theorem dL_cell_0 : decode cL_cell 0 = .ok (.iload_n 1, 1) := by decide +kernel
theorem dL_cell_1 : decode cL_cell 1 = .ok (.aload_n 0, 1) := by decide +kernel
theorem dL_cell_2 : decode cL_cell 2 = .ok (.arraylength, 1) := by decide +kernel
theorem dL_cell_3 : decode cL_cell 3 = .ok (.if_icmp .ge 9, 3) := by decide +kernel
theorem dL_cell_6 : decode cL_cell 6 = .ok (.aload_n 0, 1) := by decide +kernel
theorem dL_cell_7 : decode cL_cell 7 = .ok (.iload_n 1, 1) := by decide +kernel
theorem dL_cell_8 : decode cL_cell 8 = .ok (.iaload, 1) := by decide +kernel
theorem dL_cell_9 : decode cL_cell 9 = .ok (.goto 11, 3) := by decide +kernel
theorem dL_cell_12 : decode cL_cell 12 = .ok (.ldc 7, 2) := by decide +kernel
theorem dL_cell_14 : decode cL_cell 14 = .ok (.iload_n 1, 1) := by decide +kernel
theorem dL_cell_15 : decode cL_cell 15 = .ok (.imul, 1) := by decide +kernel
theorem dL_cell_16 : decode cL_cell 16 = .ok (.sipush 251, 3) := by decide +kernel
theorem dL_cell_19 : decode cL_cell 19 = .ok (.iadd, 1) := by decide +kernel
theorem dL_cell_20 : decode cL_cell 20 = .ok (.ldc 8, 2) := by decide +kernel
theorem dL_cell_22 : decode cL_cell 22 = .ok (.iand, 1) := by decide +kernel
theorem dL_cell_23 : decode cL_cell 23 = .ok (.ireturn, 1) := by decide +kernel
set_option maxRecDepth 20000 in
theorem ggL_builds_L_cell : GoodIn wsL_builds wsL_cell := goodIn_r _ [4, 5, 6] (by decide +kernel) (by decide +kernel)
set_option maxRecDepth 20000 in
theorem gL_builds_L_cell : GoodIn wsL_builds (va_wsS RL 9 yL_cell wsL_cell) := goodIn_app (goodIn_of _ (by decide +kernel)) ggL_builds_L_cell
set_option maxRecDepth 20000 in
theorem ggL_builds_X5_setDitch : GoodIn wsL_builds wsX5_setDitch := goodIn_r _ [11, 12, 13, 14, 15, 16, 17, 18, 19, 20, 21, 22, 23, 10, 24, 25, 26, 27, 138, 139, 140, 141, 142, 143, 144, 145, 146, 147, 148, 149, 150, 151, 152, 153, 154, 155, 156] (by decide +kernel) (by decide +kernel)
set_option maxRecDepth 20000 in
theorem gL_builds_X5_setDitch : GoodIn wsL_builds (wsV RL 15 RX5 yX5_setDitch wsX5_setDitch) := goodIn_app (goodIn_of _ (by decide +kernel)) ggL_builds_X5_setDitch
set_option maxRecDepth 20000 in
theorem ggL_builds_X5_setSupply : GoodIn wsL_builds wsX5_setSupply := goodIn_r _ [31, 12, 32, 33, 34, 10, 35, 25, 26, 27, 36, 37, 38, 19, 39, 40, 41, 42, 43, 44, 138, 139, 140, 141, 142, 143, 144, 145, 146, 147, 148, 149, 150, 151, 152, 153] (by decide +kernel) (by decide +kernel)
set_option maxRecDepth 20000 in
theorem gL_builds_X5_setSupply : GoodIn wsL_builds (wsV RL 21 RX5 yX5_setSupply wsX5_setSupply) := goodIn_app (goodIn_of _ (by decide +kernel)) ggL_builds_X5_setSupply
set_option maxRecDepth 20000 in
theorem ggL_builds_X5_setRule : GoodIn wsL_builds wsX5_setRule := goodIn_r _ [48, 12, 49, 25, 26, 10, 27, 138, 139, 140, 141, 142, 143, 144, 145, 146, 147, 148, 149, 150, 151, 152, 153] (by decide +kernel) (by decide +kernel)
set_option maxRecDepth 20000 in
theorem gL_builds_X5_setRule : GoodIn wsL_builds (wsV RL 24 RX5 yX5_setRule wsX5_setRule) := goodIn_app (goodIn_of _ (by decide +kernel)) ggL_builds_X5_setRule
set_option maxRecDepth 20000 in
theorem ggL_builds_X5_addDitch : GoodIn wsL_builds wsX5_addDitch := goodIn_r _ [53, 12, 54, 16, 17, 18, 19, 20, 21, 22, 23, 10, 24, 25, 26, 27, 55, 56, 57, 58, 59, 60, 61, 62, 63, 64, 65, 66, 67, 68, 69, 70, 71, 72, 138, 139, 140, 141, 142, 143, 144, 145, 146, 147, 148, 149, 150, 151, 152, 153, 154, 155, 156] (by decide +kernel) (by decide +kernel)
set_option maxRecDepth 20000 in
theorem gL_builds_X5_addDitch : GoodIn wsL_builds (wsV RL 28 RX5 yX5_addDitch wsX5_addDitch) := goodIn_app (goodIn_of _ (by decide +kernel)) ggL_builds_X5_addDitch
set_option maxRecDepth 20000 in
theorem ggL_builds_X5_addUser : GoodIn wsL_builds wsX5_addUser := goodIn_r _ [76, 12, 77, 16, 17, 18, 19, 20, 21, 25, 26, 10, 27, 78, 79, 80, 81, 82, 83, 84, 85, 86, 87, 88, 89, 90, 91, 92, 93, 94, 95, 96, 97, 98, 99, 100, 101, 102, 103, 104, 105, 106, 107, 138, 139, 140, 141, 142, 143, 144, 145, 146, 147, 148, 149, 150, 151, 152, 153, 157, 158, 159, 160, 161, 162, 163, 164, 165, 166, 167, 168] (by decide +kernel) (by decide +kernel)
set_option maxRecDepth 20000 in
theorem gL_builds_X5_addUser : GoodIn wsL_builds (wsV RL 31 RX5 yX5_addUser wsX5_addUser) := goodIn_app (goodIn_of _ (by decide +kernel)) ggL_builds_X5_addUser
set_option maxRecDepth 20000 in
theorem ggL_builds_X5_setField : GoodIn wsL_builds wsX5_setField := goodIn_r _ [111, 12, 112, 113, 114, 115, 116, 117, 118, 19, 119, 82, 25, 26, 10, 27, 33, 34, 35, 138, 139, 140, 141, 142, 143, 144, 145, 146, 147, 148, 149, 150, 151, 152, 153, 157, 158, 159, 160, 161, 162, 163, 164, 165, 166, 167, 168] (by decide +kernel) (by decide +kernel)
set_option maxRecDepth 20000 in
theorem gL_builds_X5_setField : GoodIn wsL_builds (wsV RL 34 RX5 yX5_setField wsX5_setField) := goodIn_app (goodIn_of _ (by decide +kernel)) ggL_builds_X5_setField
set_option maxRecDepth 20000 in
theorem ggL_builds_X5_setPond : GoodIn wsL_builds wsX5_setPond := goodIn_r _ [123, 12, 112, 124, 125, 126, 127, 128, 42, 129, 116, 117, 118, 19, 119, 82, 25, 26, 10, 27, 138, 139, 140, 141, 142, 143, 144, 145, 146, 147, 148, 149, 150, 151, 152, 153, 157, 158, 159, 160, 161, 162, 163, 164, 165, 166, 167, 168] (by decide +kernel) (by decide +kernel)
set_option maxRecDepth 20000 in
theorem gL_builds_X5_setPond : GoodIn wsL_builds (wsV RL 38 RX5 yX5_setPond wsX5_setPond) := goodIn_app (goodIn_of _ (by decide +kernel)) ggL_builds_X5_setPond
set_option maxRecDepth 20000 in
theorem ggL_builds_X5_ditches : GoodIn wsL_builds wsX5_ditches := goodIn_r _ [133, 12, 54, 138, 139, 140, 141, 142, 143, 144, 145, 146, 147, 148, 149, 150, 151, 152, 153] (by decide +kernel) (by decide +kernel)
set_option maxRecDepth 20000 in
theorem gL_builds_X5_ditches : GoodIn wsL_builds (wsV RL 41 RX5 yX5_ditches wsX5_ditches) := goodIn_app (goodIn_of _ (by decide +kernel)) ggL_builds_X5_ditches
set_option maxRecDepth 20000 in
theorem ggL_builds_X5_users : GoodIn wsL_builds wsX5_users := goodIn_r _ [137, 12, 77, 138, 139, 140, 141, 142, 143, 144, 145, 146, 147, 148, 149, 150, 151, 152, 153] (by decide +kernel) (by decide +kernel)
set_option maxRecDepth 20000 in
theorem gL_builds_X5_users : GoodIn wsL_builds (wsV RL 45 RX5 yX5_users wsX5_users) := goodIn_app (goodIn_of _ (by decide +kernel)) ggL_builds_X5_users
theorem dL_builds_0 : decode cL_builds 0 = .ok (.aload_n 1, 1) := by decide +kernel
theorem dL_builds_1 : decode cL_builds 1 = .ok (.iload_n 2, 1) := by decide +kernel
theorem dL_builds_2 : decode cL_builds 2 = .ok (.invokestatic 9, 3) := by decide +kernel
theorem dL_builds_5 : decode cL_builds 5 = .ok (.istore 6, 2) := by decide +kernel
theorem dL_builds_7 : decode cL_builds 7 = .ok (.aload 5, 2) := by decide +kernel
theorem dL_builds_9 : decode cL_builds 9 = .ok (.iconst 0, 1) := by decide +kernel
theorem dL_builds_10 : decode cL_builds 10 = .ok (.iconst 1, 1) := by decide +kernel
theorem dL_builds_11 : decode cL_builds 11 = .ok (.iload 6, 2) := by decide +kernel
theorem dL_builds_13 : decode cL_builds 13 = .ok (.iconst 5, 1) := by decide +kernel
theorem dL_builds_14 : decode cL_builds 14 = .ok (.irem, 1) := by decide +kernel
theorem dL_builds_15 : decode cL_builds 15 = .ok (.iadd, 1) := by decide +kernel
theorem dL_builds_16 : decode cL_builds 16 = .ok (.iastore, 1) := by decide +kernel
theorem dL_builds_17 : decode cL_builds 17 = .ok (.aload 5, 2) := by decide +kernel
theorem dL_builds_19 : decode cL_builds 19 = .ok (.iconst 1, 1) := by decide +kernel
theorem dL_builds_20 : decode cL_builds 20 = .ok (.iconst 1, 1) := by decide +kernel
theorem dL_builds_21 : decode cL_builds 21 = .ok (.iload 6, 2) := by decide +kernel
theorem dL_builds_23 : decode cL_builds 23 = .ok (.iconst 3, 1) := by decide +kernel
theorem dL_builds_24 : decode cL_builds 24 = .ok (.ishr, 1) := by decide +kernel
theorem dL_builds_25 : decode cL_builds 25 = .ok (.bipush 6, 2) := by decide +kernel
theorem dL_builds_27 : decode cL_builds 27 = .ok (.irem, 1) := by decide +kernel
theorem dL_builds_28 : decode cL_builds 28 = .ok (.iadd, 1) := by decide +kernel
theorem dL_builds_29 : decode cL_builds 29 = .ok (.iastore, 1) := by decide +kernel
theorem dL_builds_30 : decode cL_builds 30 = .ok (.aload 5, 2) := by decide +kernel
theorem dL_builds_32 : decode cL_builds 32 = .ok (.iconst 2, 1) := by decide +kernel
theorem dL_builds_33 : decode cL_builds 33 = .ok (.iload 6, 2) := by decide +kernel
theorem dL_builds_35 : decode cL_builds 35 = .ok (.bipush 6, 2) := by decide +kernel
theorem dL_builds_37 : decode cL_builds 37 = .ok (.ishr, 1) := by decide +kernel
theorem dL_builds_38 : decode cL_builds 38 = .ok (.bipush 120, 2) := by decide +kernel
theorem dL_builds_40 : decode cL_builds 40 = .ok (.irem, 1) := by decide +kernel
theorem dL_builds_41 : decode cL_builds 41 = .ok (.iastore, 1) := by decide +kernel
theorem dL_builds_42 : decode cL_builds 42 = .ok (.aload 5, 2) := by decide +kernel
theorem dL_builds_44 : decode cL_builds 44 = .ok (.iconst 3, 1) := by decide +kernel
theorem dL_builds_45 : decode cL_builds 45 = .ok (.iload 6, 2) := by decide +kernel
theorem dL_builds_47 : decode cL_builds 47 = .ok (.bipush 13, 2) := by decide +kernel
theorem dL_builds_49 : decode cL_builds 49 = .ok (.ishr, 1) := by decide +kernel
theorem dL_builds_50 : decode cL_builds 50 = .ok (.iconst 3, 1) := by decide +kernel
theorem dL_builds_51 : decode cL_builds 51 = .ok (.irem, 1) := by decide +kernel
theorem dL_builds_52 : decode cL_builds 52 = .ok (.iastore, 1) := by decide +kernel
theorem dL_builds_53 : decode cL_builds 53 = .ok (.aload_n 3, 1) := by decide +kernel
theorem dL_builds_54 : decode cL_builds 54 = .ok (.iconst 0, 1) := by decide +kernel
theorem dL_builds_55 : decode cL_builds 55 = .ok (.iconst 0, 1) := by decide +kernel
theorem dL_builds_56 : decode cL_builds 56 = .ok (.iastore, 1) := by decide +kernel
theorem dL_builds_57 : decode cL_builds 57 = .ok (.aload_n 3, 1) := by decide +kernel
theorem dL_builds_58 : decode cL_builds 58 = .ok (.iconst 1, 1) := by decide +kernel
theorem dL_builds_59 : decode cL_builds 59 = .ok (.iconst 1, 1) := by decide +kernel
theorem dL_builds_60 : decode cL_builds 60 = .ok (.iload 6, 2) := by decide +kernel
theorem dL_builds_62 : decode cL_builds 62 = .ok (.bipush 15, 2) := by decide +kernel
theorem dL_builds_64 : decode cL_builds 64 = .ok (.ishr, 1) := by decide +kernel
theorem dL_builds_65 : decode cL_builds 65 = .ok (.sipush 150, 3) := by decide +kernel
theorem dL_builds_68 : decode cL_builds 68 = .ok (.irem, 1) := by decide +kernel
theorem dL_builds_69 : decode cL_builds 69 = .ok (.iadd, 1) := by decide +kernel
theorem dL_builds_70 : decode cL_builds 70 = .ok (.iastore, 1) := by decide +kernel
theorem dL_builds_71 : decode cL_builds 71 = .ok (.aload_n 3, 1) := by decide +kernel
theorem dL_builds_72 : decode cL_builds 72 = .ok (.iconst 2, 1) := by decide +kernel
theorem dL_builds_73 : decode cL_builds 73 = .ok (.iload 6, 2) := by decide +kernel
theorem dL_builds_75 : decode cL_builds 75 = .ok (.bipush 22, 2) := by decide +kernel
theorem dL_builds_77 : decode cL_builds 77 = .ok (.ishr, 1) := by decide +kernel
theorem dL_builds_78 : decode cL_builds 78 = .ok (.bipush 51, 2) := by decide +kernel
theorem dL_builds_80 : decode cL_builds 80 = .ok (.irem, 1) := by decide +kernel
theorem dL_builds_81 : decode cL_builds 81 = .ok (.iastore, 1) := by decide +kernel
theorem dL_builds_82 : decode cL_builds 82 = .ok (.aload_n 0, 1) := by decide +kernel
theorem dL_builds_83 : decode cL_builds 83 = .ok (.iconst 0, 1) := by decide +kernel
theorem dL_builds_84 : decode cL_builds 84 = .ok (.aload_n 3, 1) := by decide +kernel
theorem dL_builds_85 : decode cL_builds 85 = .ok (.iconst 1, 1) := by decide +kernel
theorem dL_builds_86 : decode cL_builds 86 = .ok (.iaload, 1) := by decide +kernel
theorem dL_builds_87 : decode cL_builds 87 = .ok (.aload_n 3, 1) := by decide +kernel
theorem dL_builds_88 : decode cL_builds 88 = .ok (.iconst 2, 1) := by decide +kernel
theorem dL_builds_89 : decode cL_builds 89 = .ok (.iaload, 1) := by decide +kernel
theorem dL_builds_90 : decode cL_builds 90 = .ok (.invokevirtual 15, 3) := by decide +kernel
theorem dL_builds_93 : decode cL_builds 93 = .ok (.bipush 100, 2) := by decide +kernel
theorem dL_builds_95 : decode cL_builds 95 = .ok (.if_icmp .ne 34, 3) := by decide +kernel
theorem dL_builds_98 : decode cL_builds 98 = .ok (.aload_n 0, 1) := by decide +kernel
theorem dL_builds_99 : decode cL_builds 99 = .ok (.iconst 0, 1) := by decide +kernel
theorem dL_builds_100 : decode cL_builds 100 = .ok (.bipush 24, 2) := by decide +kernel
theorem dL_builds_102 : decode cL_builds 102 = .ok (.aload 5, 2) := by decide +kernel
theorem dL_builds_104 : decode cL_builds 104 = .ok (.iconst 2, 1) := by decide +kernel
theorem dL_builds_105 : decode cL_builds 105 = .ok (.iaload, 1) := by decide +kernel
theorem dL_builds_106 : decode cL_builds 106 = .ok (.invokevirtual 21, 3) := by decide +kernel
theorem dL_builds_109 : decode cL_builds 109 = .ok (.bipush 100, 2) := by decide +kernel
theorem dL_builds_111 : decode cL_builds 111 = .ok (.if_icmp .ne 18, 3) := by decide +kernel
theorem dL_builds_114 : decode cL_builds 114 = .ok (.aload_n 0, 1) := by decide +kernel
theorem dL_builds_115 : decode cL_builds 115 = .ok (.aload 5, 2) := by decide +kernel
theorem dL_builds_117 : decode cL_builds 117 = .ok (.iconst 3, 1) := by decide +kernel
theorem dL_builds_118 : decode cL_builds 118 = .ok (.iaload, 1) := by decide +kernel
theorem dL_builds_119 : decode cL_builds 119 = .ok (.invokevirtual 24, 3) := by decide +kernel
theorem dL_builds_122 : decode cL_builds 122 = .ok (.ifCond .ne 7, 3) := by decide +kernel
theorem dL_builds_125 : decode cL_builds 125 = .ok (.iconst 1, 1) := by decide +kernel
theorem dL_builds_126 : decode cL_builds 126 = .ok (.goto 4, 3) := by decide +kernel
theorem dL_builds_129 : decode cL_builds 129 = .ok (.iconst 0, 1) := by decide +kernel
theorem dL_builds_130 : decode cL_builds 130 = .ok (.istore 7, 2) := by decide +kernel
theorem dL_builds_132 : decode cL_builds 132 = .ok (.iconst 1, 1) := by decide +kernel
theorem dL_builds_133 : decode cL_builds 133 = .ok (.istore 8, 2) := by decide +kernel
theorem dL_builds_135 : decode cL_builds 135 = .ok (.iload 8, 2) := by decide +kernel
theorem dL_builds_137 : decode cL_builds 137 = .ok (.aload 5, 2) := by decide +kernel
theorem dL_builds_139 : decode cL_builds 139 = .ok (.iconst 0, 1) := by decide +kernel
theorem dL_builds_140 : decode cL_builds 140 = .ok (.iaload, 1) := by decide +kernel
theorem dL_builds_141 : decode cL_builds 141 = .ok (.if_icmp .ge 120, 3) := by decide +kernel
theorem dL_builds_144 : decode cL_builds 144 = .ok (.iload 7, 2) := by decide +kernel
theorem dL_builds_146 : decode cL_builds 146 = .ok (.ifCond .eq 115, 3) := by decide +kernel
theorem dL_builds_149 : decode cL_builds 149 = .ok (.aload_n 1, 1) := by decide +kernel
theorem dL_builds_150 : decode cL_builds 150 = .ok (.iload_n 2, 1) := by decide +kernel
theorem dL_builds_151 : decode cL_builds 151 = .ok (.iload 8, 2) := by decide +kernel
theorem dL_builds_153 : decode cL_builds 153 = .ok (.iadd, 1) := by decide +kernel
theorem dL_builds_154 : decode cL_builds 154 = .ok (.invokestatic 9, 3) := by decide +kernel
theorem dL_builds_157 : decode cL_builds 157 = .ok (.istore 9, 2) := by decide +kernel
theorem dL_builds_159 : decode cL_builds 159 = .ok (.aload_n 3, 1) := by decide +kernel
theorem dL_builds_160 : decode cL_builds 160 = .ok (.iconst 3, 1) := by decide +kernel
theorem dL_builds_161 : decode cL_builds 161 = .ok (.iload 8, 2) := by decide +kernel
theorem dL_builds_163 : decode cL_builds 163 = .ok (.imul, 1) := by decide +kernel
theorem dL_builds_164 : decode cL_builds 164 = .ok (.iload 9, 2) := by decide +kernel
theorem dL_builds_166 : decode cL_builds 166 = .ok (.iload 8, 2) := by decide +kernel
theorem dL_builds_168 : decode cL_builds 168 = .ok (.irem, 1) := by decide +kernel
theorem dL_builds_169 : decode cL_builds 169 = .ok (.iastore, 1) := by decide +kernel
theorem dL_builds_170 : decode cL_builds 170 = .ok (.aload_n 3, 1) := by decide +kernel
theorem dL_builds_171 : decode cL_builds 171 = .ok (.iconst 3, 1) := by decide +kernel
theorem dL_builds_172 : decode cL_builds 172 = .ok (.iload 8, 2) := by decide +kernel
theorem dL_builds_174 : decode cL_builds 174 = .ok (.imul, 1) := by decide +kernel
theorem dL_builds_175 : decode cL_builds 175 = .ok (.iconst 1, 1) := by decide +kernel
theorem dL_builds_176 : decode cL_builds 176 = .ok (.iadd, 1) := by decide +kernel
theorem dL_builds_177 : decode cL_builds 177 = .ok (.iconst 1, 1) := by decide +kernel
theorem dL_builds_178 : decode cL_builds 178 = .ok (.iload 9, 2) := by decide +kernel
theorem dL_builds_180 : decode cL_builds 180 = .ok (.iconst 4, 1) := by decide +kernel
theorem dL_builds_181 : decode cL_builds 181 = .ok (.ishr, 1) := by decide +kernel
theorem dL_builds_182 : decode cL_builds 182 = .ok (.bipush 80, 2) := by decide +kernel
theorem dL_builds_184 : decode cL_builds 184 = .ok (.irem, 1) := by decide +kernel
theorem dL_builds_185 : decode cL_builds 185 = .ok (.iadd, 1) := by decide +kernel
theorem dL_builds_186 : decode cL_builds 186 = .ok (.iastore, 1) := by decide +kernel
theorem dL_builds_187 : decode cL_builds 187 = .ok (.aload_n 3, 1) := by decide +kernel
theorem dL_builds_188 : decode cL_builds 188 = .ok (.iconst 3, 1) := by decide +kernel
theorem dL_builds_189 : decode cL_builds 189 = .ok (.iload 8, 2) := by decide +kernel
theorem dL_builds_191 : decode cL_builds 191 = .ok (.imul, 1) := by decide +kernel
theorem dL_builds_192 : decode cL_builds 192 = .ok (.iconst 2, 1) := by decide +kernel
theorem dL_builds_193 : decode cL_builds 193 = .ok (.iadd, 1) := by decide +kernel
theorem dL_builds_194 : decode cL_builds 194 = .ok (.iload 9, 2) := by decide +kernel
theorem dL_builds_196 : decode cL_builds 196 = .ok (.bipush 12, 2) := by decide +kernel
theorem dL_builds_198 : decode cL_builds 198 = .ok (.ishr, 1) := by decide +kernel
theorem dL_builds_199 : decode cL_builds 199 = .ok (.iconst 3, 1) := by decide +kernel
theorem dL_builds_200 : decode cL_builds 200 = .ok (.irem, 1) := by decide +kernel
theorem dL_builds_201 : decode cL_builds 201 = .ok (.ifCond .ne 7, 3) := by decide +kernel
theorem dL_builds_204 : decode cL_builds 204 = .ok (.iconst 0, 1) := by decide +kernel
theorem dL_builds_205 : decode cL_builds 205 = .ok (.goto 11, 3) := by decide +kernel
theorem dL_builds_208 : decode cL_builds 208 = .ok (.iload 9, 2) := by decide +kernel
theorem dL_builds_210 : decode cL_builds 210 = .ok (.bipush 14, 2) := by decide +kernel
theorem dL_builds_212 : decode cL_builds 212 = .ok (.ishr, 1) := by decide +kernel
theorem dL_builds_213 : decode cL_builds 213 = .ok (.bipush 51, 2) := by decide +kernel
theorem dL_builds_215 : decode cL_builds 215 = .ok (.irem, 1) := by decide +kernel
theorem dL_builds_216 : decode cL_builds 216 = .ok (.iastore, 1) := by decide +kernel
theorem dL_builds_217 : decode cL_builds 217 = .ok (.aload_n 0, 1) := by decide +kernel
theorem dL_builds_218 : decode cL_builds 218 = .ok (.aload_n 3, 1) := by decide +kernel
theorem dL_builds_219 : decode cL_builds 219 = .ok (.iconst 3, 1) := by decide +kernel
theorem dL_builds_220 : decode cL_builds 220 = .ok (.iload 8, 2) := by decide +kernel
theorem dL_builds_222 : decode cL_builds 222 = .ok (.imul, 1) := by decide +kernel
theorem dL_builds_223 : decode cL_builds 223 = .ok (.iaload, 1) := by decide +kernel
theorem dL_builds_224 : decode cL_builds 224 = .ok (.aload_n 3, 1) := by decide +kernel
theorem dL_builds_225 : decode cL_builds 225 = .ok (.iconst 3, 1) := by decide +kernel
theorem dL_builds_226 : decode cL_builds 226 = .ok (.iload 8, 2) := by decide +kernel
theorem dL_builds_228 : decode cL_builds 228 = .ok (.imul, 1) := by decide +kernel
theorem dL_builds_229 : decode cL_builds 229 = .ok (.iconst 1, 1) := by decide +kernel
theorem dL_builds_230 : decode cL_builds 230 = .ok (.iadd, 1) := by decide +kernel
theorem dL_builds_231 : decode cL_builds 231 = .ok (.iaload, 1) := by decide +kernel
theorem dL_builds_232 : decode cL_builds 232 = .ok (.aload_n 3, 1) := by decide +kernel
theorem dL_builds_233 : decode cL_builds 233 = .ok (.iconst 3, 1) := by decide +kernel
theorem dL_builds_234 : decode cL_builds 234 = .ok (.iload 8, 2) := by decide +kernel
theorem dL_builds_236 : decode cL_builds 236 = .ok (.imul, 1) := by decide +kernel
theorem dL_builds_237 : decode cL_builds 237 = .ok (.iconst 2, 1) := by decide +kernel
theorem dL_builds_238 : decode cL_builds 238 = .ok (.iadd, 1) := by decide +kernel
theorem dL_builds_239 : decode cL_builds 239 = .ok (.iaload, 1) := by decide +kernel
theorem dL_builds_240 : decode cL_builds 240 = .ok (.invokevirtual 28, 3) := by decide +kernel
theorem dL_builds_243 : decode cL_builds 243 = .ok (.iload 8, 2) := by decide +kernel
theorem dL_builds_245 : decode cL_builds 245 = .ok (.if_icmp .ne 7, 3) := by decide +kernel
theorem dL_builds_248 : decode cL_builds 248 = .ok (.iconst 1, 1) := by decide +kernel
theorem dL_builds_249 : decode cL_builds 249 = .ok (.goto 4, 3) := by decide +kernel
theorem dL_builds_252 : decode cL_builds 252 = .ok (.iconst 0, 1) := by decide +kernel
theorem dL_builds_253 : decode cL_builds 253 = .ok (.istore 7, 2) := by decide +kernel
theorem dL_builds_255 : decode cL_builds 255 = .ok (.iinc 8 1, 3) := by decide +kernel
theorem dL_builds_258 : decode cL_builds 258 = .ok (.goto (-123), 3) := by decide +kernel
theorem dL_builds_261 : decode cL_builds 261 = .ok (.iconst 0, 1) := by decide +kernel
theorem dL_builds_262 : decode cL_builds 262 = .ok (.istore 8, 2) := by decide +kernel
theorem dL_builds_264 : decode cL_builds 264 = .ok (.iload 8, 2) := by decide +kernel
theorem dL_builds_266 : decode cL_builds 266 = .ok (.aload 5, 2) := by decide +kernel
theorem dL_builds_268 : decode cL_builds 268 = .ok (.iconst 1, 1) := by decide +kernel
theorem dL_builds_269 : decode cL_builds 269 = .ok (.iaload, 1) := by decide +kernel
theorem dL_builds_270 : decode cL_builds 270 = .ok (.if_icmp .ge 206, 3) := by decide +kernel
theorem dL_builds_273 : decode cL_builds 273 = .ok (.iload 7, 2) := by decide +kernel
theorem dL_builds_275 : decode cL_builds 275 = .ok (.ifCond .eq 201, 3) := by decide +kernel
theorem dL_builds_278 : decode cL_builds 278 = .ok (.aload_n 1, 1) := by decide +kernel
theorem dL_builds_279 : decode cL_builds 279 = .ok (.iload_n 2, 1) := by decide +kernel
theorem dL_builds_280 : decode cL_builds 280 = .ok (.iconst 5, 1) := by decide +kernel
theorem dL_builds_281 : decode cL_builds 281 = .ok (.iadd, 1) := by decide +kernel
theorem dL_builds_282 : decode cL_builds 282 = .ok (.iload 8, 2) := by decide +kernel
theorem dL_builds_284 : decode cL_builds 284 = .ok (.iadd, 1) := by decide +kernel
theorem dL_builds_285 : decode cL_builds 285 = .ok (.invokestatic 9, 3) := by decide +kernel
theorem dL_builds_288 : decode cL_builds 288 = .ok (.istore 9, 2) := by decide +kernel
theorem dL_builds_290 : decode cL_builds 290 = .ok (.aload 4, 2) := by decide +kernel
theorem dL_builds_292 : decode cL_builds 292 = .ok (.iconst 5, 1) := by decide +kernel
theorem dL_builds_293 : decode cL_builds 293 = .ok (.iload 8, 2) := by decide +kernel
theorem dL_builds_295 : decode cL_builds 295 = .ok (.imul, 1) := by decide +kernel
theorem dL_builds_296 : decode cL_builds 296 = .ok (.iload 9, 2) := by decide +kernel
theorem dL_builds_298 : decode cL_builds 298 = .ok (.aload 5, 2) := by decide +kernel
theorem dL_builds_300 : decode cL_builds 300 = .ok (.iconst 0, 1) := by decide +kernel
theorem dL_builds_301 : decode cL_builds 301 = .ok (.iaload, 1) := by decide +kernel
theorem dL_builds_302 : decode cL_builds 302 = .ok (.irem, 1) := by decide +kernel
theorem dL_builds_303 : decode cL_builds 303 = .ok (.iastore, 1) := by decide +kernel
theorem dL_builds_304 : decode cL_builds 304 = .ok (.aload 4, 2) := by decide +kernel
theorem dL_builds_306 : decode cL_builds 306 = .ok (.iconst 5, 1) := by decide +kernel
theorem dL_builds_307 : decode cL_builds 307 = .ok (.iload 8, 2) := by decide +kernel
theorem dL_builds_309 : decode cL_builds 309 = .ok (.imul, 1) := by decide +kernel
theorem dL_builds_310 : decode cL_builds 310 = .ok (.iconst 1, 1) := by decide +kernel
theorem dL_builds_311 : decode cL_builds 311 = .ok (.iadd, 1) := by decide +kernel
theorem dL_builds_312 : decode cL_builds 312 = .ok (.sipush 1880, 3) := by decide +kernel
theorem dL_builds_315 : decode cL_builds 315 = .ok (.iload 9, 2) := by decide +kernel
theorem dL_builds_317 : decode cL_builds 317 = .ok (.iconst 4, 1) := by decide +kernel
theorem dL_builds_318 : decode cL_builds 318 = .ok (.ishr, 1) := by decide +kernel
theorem dL_builds_319 : decode cL_builds 319 = .ok (.bipush 9, 2) := by decide +kernel
theorem dL_builds_321 : decode cL_builds 321 = .ok (.irem, 1) := by decide +kernel
theorem dL_builds_322 : decode cL_builds 322 = .ok (.iadd, 1) := by decide +kernel
theorem dL_builds_323 : decode cL_builds 323 = .ok (.iastore, 1) := by decide +kernel
theorem dL_builds_324 : decode cL_builds 324 = .ok (.aload 4, 2) := by decide +kernel
theorem dL_builds_326 : decode cL_builds 326 = .ok (.iconst 5, 1) := by decide +kernel
theorem dL_builds_327 : decode cL_builds 327 = .ok (.iload 8, 2) := by decide +kernel
theorem dL_builds_329 : decode cL_builds 329 = .ok (.imul, 1) := by decide +kernel
theorem dL_builds_330 : decode cL_builds 330 = .ok (.iconst 2, 1) := by decide +kernel
theorem dL_builds_331 : decode cL_builds 331 = .ok (.iadd, 1) := by decide +kernel
theorem dL_builds_332 : decode cL_builds 332 = .ok (.iload 9, 2) := by decide +kernel
theorem dL_builds_334 : decode cL_builds 334 = .ok (.bipush 8, 2) := by decide +kernel
theorem dL_builds_336 : decode cL_builds 336 = .ok (.ishr, 1) := by decide +kernel
theorem dL_builds_337 : decode cL_builds 337 = .ok (.bipush 40, 2) := by decide +kernel
theorem dL_builds_339 : decode cL_builds 339 = .ok (.irem, 1) := by decide +kernel
theorem dL_builds_340 : decode cL_builds 340 = .ok (.iastore, 1) := by decide +kernel
theorem dL_builds_341 : decode cL_builds 341 = .ok (.aload 4, 2) := by decide +kernel
theorem dL_builds_343 : decode cL_builds 343 = .ok (.iconst 5, 1) := by decide +kernel
theorem dL_builds_344 : decode cL_builds 344 = .ok (.iload 8, 2) := by decide +kernel
theorem dL_builds_346 : decode cL_builds 346 = .ok (.imul, 1) := by decide +kernel
theorem dL_builds_347 : decode cL_builds 347 = .ok (.iconst 3, 1) := by decide +kernel
theorem dL_builds_348 : decode cL_builds 348 = .ok (.iadd, 1) := by decide +kernel
theorem dL_builds_349 : decode cL_builds 349 = .ok (.iload 9, 2) := by decide +kernel
theorem dL_builds_351 : decode cL_builds 351 = .ok (.bipush 14, 2) := by decide +kernel
theorem dL_builds_353 : decode cL_builds 353 = .ok (.ishr, 1) := by decide +kernel
theorem dL_builds_354 : decode cL_builds 354 = .ok (.bipush 30, 2) := by decide +kernel
theorem dL_builds_356 : decode cL_builds 356 = .ok (.irem, 1) := by decide +kernel
theorem dL_builds_357 : decode cL_builds 357 = .ok (.iastore, 1) := by decide +kernel
theorem dL_builds_358 : decode cL_builds 358 = .ok (.aload 4, 2) := by decide +kernel
theorem dL_builds_360 : decode cL_builds 360 = .ok (.iconst 5, 1) := by decide +kernel
theorem dL_builds_361 : decode cL_builds 361 = .ok (.iload 8, 2) := by decide +kernel
theorem dL_builds_363 : decode cL_builds 363 = .ok (.imul, 1) := by decide +kernel
theorem dL_builds_364 : decode cL_builds 364 = .ok (.iconst 4, 1) := by decide +kernel
theorem dL_builds_365 : decode cL_builds 365 = .ok (.iadd, 1) := by decide +kernel
theorem dL_builds_366 : decode cL_builds 366 = .ok (.iload 9, 2) := by decide +kernel
theorem dL_builds_368 : decode cL_builds 368 = .ok (.bipush 19, 2) := by decide +kernel
theorem dL_builds_370 : decode cL_builds 370 = .ok (.ishr, 1) := by decide +kernel
theorem dL_builds_371 : decode cL_builds 371 = .ok (.iconst 3, 1) := by decide +kernel
theorem dL_builds_372 : decode cL_builds 372 = .ok (.irem, 1) := by decide +kernel
theorem dL_builds_373 : decode cL_builds 373 = .ok (.ifCond .ne 14, 3) := by decide +kernel
theorem dL_builds_376 : decode cL_builds 376 = .ok (.iload 9, 2) := by decide +kernel
theorem dL_builds_378 : decode cL_builds 378 = .ok (.bipush 21, 2) := by decide +kernel
theorem dL_builds_380 : decode cL_builds 380 = .ok (.ishr, 1) := by decide +kernel
theorem dL_builds_381 : decode cL_builds 381 = .ok (.bipush 60, 2) := by decide +kernel
theorem dL_builds_383 : decode cL_builds 383 = .ok (.irem, 1) := by decide +kernel
theorem dL_builds_384 : decode cL_builds 384 = .ok (.goto 4, 3) := by decide +kernel
theorem dL_builds_387 : decode cL_builds 387 = .ok (.iconst 0, 1) := by decide +kernel
theorem dL_builds_388 : decode cL_builds 388 = .ok (.iastore, 1) := by decide +kernel
theorem dL_builds_389 : decode cL_builds 389 = .ok (.aload_n 0, 1) := by decide +kernel
theorem dL_builds_390 : decode cL_builds 390 = .ok (.aload 4, 2) := by decide +kernel
theorem dL_builds_392 : decode cL_builds 392 = .ok (.iconst 5, 1) := by decide +kernel
theorem dL_builds_393 : decode cL_builds 393 = .ok (.iload 8, 2) := by decide +kernel
theorem dL_builds_395 : decode cL_builds 395 = .ok (.imul, 1) := by decide +kernel
theorem dL_builds_396 : decode cL_builds 396 = .ok (.iaload, 1) := by decide +kernel
theorem dL_builds_397 : decode cL_builds 397 = .ok (.aload 4, 2) := by decide +kernel
theorem dL_builds_399 : decode cL_builds 399 = .ok (.iconst 5, 1) := by decide +kernel
theorem dL_builds_400 : decode cL_builds 400 = .ok (.iload 8, 2) := by decide +kernel
theorem dL_builds_402 : decode cL_builds 402 = .ok (.imul, 1) := by decide +kernel
theorem dL_builds_403 : decode cL_builds 403 = .ok (.iconst 1, 1) := by decide +kernel
theorem dL_builds_404 : decode cL_builds 404 = .ok (.iadd, 1) := by decide +kernel
theorem dL_builds_405 : decode cL_builds 405 = .ok (.iaload, 1) := by decide +kernel
theorem dL_builds_406 : decode cL_builds 406 = .ok (.aload 4, 2) := by decide +kernel
theorem dL_builds_408 : decode cL_builds 408 = .ok (.iconst 5, 1) := by decide +kernel
theorem dL_builds_409 : decode cL_builds 409 = .ok (.iload 8, 2) := by decide +kernel
theorem dL_builds_411 : decode cL_builds 411 = .ok (.imul, 1) := by decide +kernel
theorem dL_builds_412 : decode cL_builds 412 = .ok (.iconst 2, 1) := by decide +kernel
theorem dL_builds_413 : decode cL_builds 413 = .ok (.iadd, 1) := by decide +kernel
theorem dL_builds_414 : decode cL_builds 414 = .ok (.iaload, 1) := by decide +kernel
theorem dL_builds_415 : decode cL_builds 415 = .ok (.invokevirtual 31, 3) := by decide +kernel
theorem dL_builds_418 : decode cL_builds 418 = .ok (.iload 8, 2) := by decide +kernel
theorem dL_builds_420 : decode cL_builds 420 = .ok (.if_icmp .ne 47, 3) := by decide +kernel
theorem dL_builds_423 : decode cL_builds 423 = .ok (.aload_n 0, 1) := by decide +kernel
theorem dL_builds_424 : decode cL_builds 424 = .ok (.iload 8, 2) := by decide +kernel
theorem dL_builds_426 : decode cL_builds 426 = .ok (.aload 4, 2) := by decide +kernel
theorem dL_builds_428 : decode cL_builds 428 = .ok (.iconst 5, 1) := by decide +kernel
theorem dL_builds_429 : decode cL_builds 429 = .ok (.iload 8, 2) := by decide +kernel
theorem dL_builds_431 : decode cL_builds 431 = .ok (.imul, 1) := by decide +kernel
theorem dL_builds_432 : decode cL_builds 432 = .ok (.iconst 3, 1) := by decide +kernel
theorem dL_builds_433 : decode cL_builds 433 = .ok (.iadd, 1) := by decide +kernel
theorem dL_builds_434 : decode cL_builds 434 = .ok (.iaload, 1) := by decide +kernel
theorem dL_builds_435 : decode cL_builds 435 = .ok (.iconst 0, 1) := by decide +kernel
theorem dL_builds_436 : decode cL_builds 436 = .ok (.bipush 24, 2) := by decide +kernel
theorem dL_builds_438 : decode cL_builds 438 = .ok (.invokevirtual 34, 3) := by decide +kernel
theorem dL_builds_441 : decode cL_builds 441 = .ok (.ifCond .ne 26, 3) := by decide +kernel
theorem dL_builds_444 : decode cL_builds 444 = .ok (.aload_n 0, 1) := by decide +kernel
theorem dL_builds_445 : decode cL_builds 445 = .ok (.iload 8, 2) := by decide +kernel
theorem dL_builds_447 : decode cL_builds 447 = .ok (.aload 4, 2) := by decide +kernel
theorem dL_builds_449 : decode cL_builds 449 = .ok (.iconst 5, 1) := by decide +kernel
theorem dL_builds_450 : decode cL_builds 450 = .ok (.iload 8, 2) := by decide +kernel
theorem dL_builds_452 : decode cL_builds 452 = .ok (.imul, 1) := by decide +kernel
theorem dL_builds_453 : decode cL_builds 453 = .ok (.iconst 4, 1) := by decide +kernel
theorem dL_builds_454 : decode cL_builds 454 = .ok (.iadd, 1) := by decide +kernel
theorem dL_builds_455 : decode cL_builds 455 = .ok (.iaload, 1) := by decide +kernel
theorem dL_builds_456 : decode cL_builds 456 = .ok (.iconst 0, 1) := by decide +kernel
theorem dL_builds_457 : decode cL_builds 457 = .ok (.invokevirtual 38, 3) := by decide +kernel
theorem dL_builds_460 : decode cL_builds 460 = .ok (.ifCond .ne 7, 3) := by decide +kernel
theorem dL_builds_463 : decode cL_builds 463 = .ok (.iconst 1, 1) := by decide +kernel
theorem dL_builds_464 : decode cL_builds 464 = .ok (.goto 4, 3) := by decide +kernel
theorem dL_builds_467 : decode cL_builds 467 = .ok (.iconst 0, 1) := by decide +kernel
theorem dL_builds_468 : decode cL_builds 468 = .ok (.istore 7, 2) := by decide +kernel
theorem dL_builds_470 : decode cL_builds 470 = .ok (.iinc 8 1, 3) := by decide +kernel
theorem dL_builds_473 : decode cL_builds 473 = .ok (.goto (-209), 3) := by decide +kernel
theorem dL_builds_476 : decode cL_builds 476 = .ok (.iload 7, 2) := by decide +kernel
theorem dL_builds_478 : decode cL_builds 478 = .ok (.ifCond .eq 29, 3) := by decide +kernel
theorem dL_builds_481 : decode cL_builds 481 = .ok (.aload_n 0, 1) := by decide +kernel
theorem dL_builds_482 : decode cL_builds 482 = .ok (.invokevirtual 41, 3) := by decide +kernel
theorem dL_builds_485 : decode cL_builds 485 = .ok (.aload 5, 2) := by decide +kernel
theorem dL_builds_487 : decode cL_builds 487 = .ok (.iconst 0, 1) := by decide +kernel
theorem dL_builds_488 : decode cL_builds 488 = .ok (.iaload, 1) := by decide +kernel
theorem dL_builds_489 : decode cL_builds 489 = .ok (.if_icmp .ne 18, 3) := by decide +kernel
theorem dL_builds_492 : decode cL_builds 492 = .ok (.aload_n 0, 1) := by decide +kernel
theorem dL_builds_493 : decode cL_builds 493 = .ok (.invokevirtual 45, 3) := by decide +kernel
theorem dL_builds_496 : decode cL_builds 496 = .ok (.aload 5, 2) := by decide +kernel
theorem dL_builds_498 : decode cL_builds 498 = .ok (.iconst 1, 1) := by decide +kernel
theorem dL_builds_499 : decode cL_builds 499 = .ok (.iaload, 1) := by decide +kernel
theorem dL_builds_500 : decode cL_builds 500 = .ok (.if_icmp .ne 7, 3) := by decide +kernel
theorem dL_builds_503 : decode cL_builds 503 = .ok (.iconst 1, 1) := by decide +kernel
theorem dL_builds_504 : decode cL_builds 504 = .ok (.goto 4, 3) := by decide +kernel
theorem dL_builds_507 : decode cL_builds 507 = .ok (.iconst 0, 1) := by decide +kernel
theorem dL_builds_508 : decode cL_builds 508 = .ok (.ireturn, 1) := by decide +kernel
set_option maxRecDepth 20000 in
theorem ggL_sound_X5_inflow : GoodIn wsL_sound wsX5_inflow := goodIn_r _ [5, 6, 7, 8, 9, 10, 11, 12, 13, 14, 15, 16, 17, 18, 19, 20, 21, 22, 23, 24, 25, 26, 27, 28, 29, 30, 31, 32, 33, 34, 35, 36, 37, 38, 39, 40, 41, 42, 43, 44, 45, 46, 47, 48, 49, 50, 51, 52, 53, 54, 55, 56, 57, 58, 59, 60, 61, 62, 63, 64, 65, 66, 67, 68, 69, 70, 71, 72, 73, 74, 75, 76, 77, 78, 79, 80, 81, 82, 83, 84, 85, 86, 87, 88, 89, 90, 91, 92, 93, 94, 95, 96, 97, 98, 99, 100, 101, 102, 103, 104, 105, 106, 107, 108, 109, 110, 111, 112, 113, 114, 115, 116, 117, 118, 119, 208, 209, 210, 211, 212, 213, 214, 215, 216, 217, 218, 219, 220, 221, 222, 223, 224, 225, 226, 227, 228, 229, 230, 231, 232, 233, 234, 235, 236, 237, 238, 239, 240, 241, 242, 243, 244] (by decide +kernel) (by decide +kernel)
set_option maxRecDepth 20000 in
theorem gL_sound_X5_inflow : GoodIn wsL_sound (wsV RL 48 RX5 yX5_inflow wsX5_inflow) := goodIn_app (goodIn_of _ (by decide +kernel)) ggL_sound_X5_inflow
set_option maxRecDepth 20000 in
theorem ggL_sound_X5_loses : GoodIn wsL_sound wsX5_loses := goodIn_r _ [123, 6, 7, 9, 10, 11, 12, 13, 14, 15, 16, 17, 18, 19, 20, 21, 22, 23, 24, 25, 26, 27, 28, 29, 30, 31, 32, 33, 34, 35, 36, 37, 38, 39, 40, 41, 42, 43, 44, 45, 46, 47, 48, 49, 50, 51, 52, 53, 54, 55, 56, 57, 58, 59, 60, 61, 62, 63, 64, 65, 66, 67, 68, 69, 70, 71, 72, 73, 74, 75, 76, 77, 78, 79, 80, 81, 82, 83, 84, 85, 86, 87, 88, 89, 90, 91, 92, 93, 94, 95, 96, 97, 98, 99, 100, 101, 102, 103, 104, 105, 106, 107, 108, 109, 110, 111, 112, 113, 114, 115, 116, 117, 118, 119, 124, 125, 126, 127, 208, 209, 210, 211, 212, 213, 220, 221, 222, 223, 224, 225, 226, 227, 228, 229, 214, 215, 216, 217, 218, 219, 230, 231, 232, 233, 234, 235, 236, 237, 238, 239, 240, 241, 242, 243, 244] (by decide +kernel) (by decide +kernel)
set_option maxRecDepth 20000 in
theorem gL_sound_X5_loses : GoodIn wsL_sound (wsV RL 51 RX5 yX5_loses wsX5_loses) := goodIn_app (goodIn_of _ (by decide +kernel)) ggL_sound_X5_loses
set_option maxRecDepth 20000 in
theorem ggL_sound_X5_gets : GoodIn wsL_sound wsX5_gets := goodIn_r _ [131, 6, 7, 132, 133, 103, 104, 12, 105, 44, 15, 16, 17, 18, 19, 20, 21, 22, 23, 24, 25, 26, 27, 28, 29, 30, 31, 32, 33, 34, 35, 36, 37, 38, 39, 40, 41, 42, 43, 45, 46, 47, 48, 49, 50, 51, 52, 53, 54, 55, 56, 57, 58, 59, 60, 61, 62, 63, 64, 65, 66, 67, 68, 69, 70, 71, 72, 73, 74, 75, 76, 77, 78, 79, 80, 81, 82, 83, 84, 85, 86, 87, 88, 89, 90, 91, 92, 93, 94, 95, 96, 97, 98, 99, 100, 101, 102, 106, 107, 108, 109, 110, 111, 112, 113, 114, 115, 116, 117, 118, 119, 208, 209, 210, 211, 212, 213, 214, 215, 216, 217, 218, 219, 220, 221, 222, 223, 224, 225, 226, 227, 228, 229, 230, 231, 232, 233, 234, 235, 236, 237, 238, 239, 240, 241, 242, 243, 244] (by decide +kernel) (by decide +kernel)
set_option maxRecDepth 20000 in
theorem gL_sound_X5_gets : GoodIn wsL_sound (wsV RL 54 RX5 yX5_gets wsX5_gets) := goodIn_app (goodIn_of _ (by decide +kernel)) ggL_sound_X5_gets
set_option maxRecDepth 20000 in
theorem ggL_sound_X5_limit : GoodIn wsL_sound wsX5_limit := goodIn_r _ [137, 6, 7, 133, 103, 104, 12, 105, 44, 15, 16, 17, 18, 19, 20, 21, 22, 23, 24, 25, 26, 27, 28, 29, 30, 31, 32, 33, 34, 35, 36, 37, 38, 39, 40, 41, 42, 43, 45, 46, 47, 48, 49, 50, 51, 52, 53, 54, 55, 56, 57, 58, 59, 60, 61, 62, 63, 64, 65, 66, 67, 68, 69, 70, 71, 72, 73, 74, 75, 76, 77, 78, 79, 80, 81, 82, 83, 84, 85, 86, 87, 88, 89, 90, 91, 92, 93, 94, 95, 96, 97, 98, 99, 100, 101, 102, 106, 107, 108, 109, 110, 111, 112, 113, 114, 115, 116, 117, 118, 119, 138, 139, 140, 141, 142, 143, 144, 145, 208, 209, 210, 211, 212, 213, 220, 221, 222, 223, 224, 225, 226, 227, 228, 229, 214, 215, 216, 217, 218, 219, 230, 231, 232, 233, 234, 235, 236, 237, 238, 239, 240, 241, 242, 243, 244] (by decide +kernel) (by decide +kernel)
set_option maxRecDepth 20000 in
theorem gL_sound_X5_limit : GoodIn wsL_sound (wsV RL 57 RX5 yX5_limit wsX5_limit) := goodIn_app (goodIn_of _ (by decide +kernel)) ggL_sound_X5_limit
set_option maxRecDepth 20000 in
theorem ggL_sound_X5_asks : GoodIn wsL_sound wsX5_asks := goodIn_r _ [149, 6, 133, 103, 104, 12, 105, 44, 150, 41, 42, 43, 45, 46, 47, 35, 36, 37, 38, 39, 151, 49, 50, 51, 52, 53, 54, 55, 56, 57, 31, 32, 33, 34, 58, 59, 60, 61, 62, 63, 64, 65, 66, 67, 68, 69, 70, 71, 208, 209, 210, 211, 212, 213, 220, 221, 222, 223, 224, 225, 226, 227, 228, 229, 230, 231, 232, 233, 234, 235, 236, 237, 238, 239, 240, 241] (by decide +kernel) (by decide +kernel)
set_option maxRecDepth 20000 in
theorem gL_sound_X5_asks : GoodIn wsL_sound (wsV RL 60 RX5 yX5_asks wsX5_asks) := goodIn_app (goodIn_of _ (by decide +kernel)) ggL_sound_X5_asks
set_option maxRecDepth 20000 in
theorem ggL_sound_X5_userByAge : GoodIn wsL_sound wsX5_userByAge := goodIn_r _ [155, 6, 156, 133, 103, 104, 12, 105, 44, 208, 209, 210, 211, 212, 213, 220, 221, 222, 223, 224, 225, 226, 227, 228, 229] (by decide +kernel) (by decide +kernel)
set_option maxRecDepth 20000 in
theorem gL_sound_X5_userByAge : GoodIn wsL_sound (wsV RL 63 RX5 yX5_userByAge wsX5_userByAge) := goodIn_app (goodIn_of _ (by decide +kernel)) ggL_sound_X5_userByAge
set_option maxRecDepth 20000 in
theorem ggL_sound_L_older : GoodIn wsL_sound wsL_older := goodIn_r _ [160] (by decide +kernel) (by decide +kernel)
set_option maxRecDepth 20000 in
theorem gL_sound_L_older : GoodIn wsL_sound (va_wsS RL 66 yL_older wsL_older) := goodIn_app (goodIn_of _ (by decide +kernel)) ggL_sound_L_older
set_option maxRecDepth 20000 in
theorem ggL_sound_X5_usefulGate : GoodIn wsL_sound wsX5_usefulGate := goodIn_r _ [164, 6, 165, 9, 10, 11, 12, 13, 14, 166, 167, 168, 169, 170, 171, 172, 173, 44, 45, 174, 30, 175, 47, 176, 35, 177, 178, 179, 94, 180, 181, 182, 96, 183, 184, 185, 61, 186, 187, 188, 189, 65, 63, 64, 70, 71, 190, 191, 192, 193, 194, 195, 196, 197, 198, 199, 200, 4, 201, 202, 203, 7, 15, 16, 17, 18, 19, 20, 21, 22, 23, 24, 25, 26, 27, 28, 29, 31, 32, 33, 34, 36, 37, 38, 39, 40, 41, 42, 43, 46, 48, 49, 50, 51, 52, 53, 54, 55, 56, 57, 58, 59, 60, 62, 66, 67, 68, 69, 72, 73, 74, 75, 76, 77, 78, 79, 80, 81, 82, 83, 84, 85, 86, 87, 88, 89, 90, 91, 92, 93, 95, 97, 98, 99, 100, 101, 102, 103, 104, 105, 106, 107, 108, 109, 110, 111, 112, 113, 114, 115, 116, 117, 118, 119, 204, 205, 206, 207, 208, 209, 210, 211, 212, 213, 220, 221, 222, 223, 224, 225, 226, 227, 228, 229, 242, 243, 244, 230, 231, 232, 233, 234, 235, 236, 237, 238, 239, 240, 241, 214, 215, 216, 217, 218, 219] (by decide +kernel) (by decide +kernel)
set_option maxRecDepth 20000 in
theorem gL_sound_X5_usefulGate : GoodIn wsL_sound (wsV RL 70 RX5 yX5_usefulGate wsX5_usefulGate) := goodIn_app (goodIn_of _ (by decide +kernel)) ggL_sound_X5_usefulGate
theorem dL_sound_0 : decode cL_sound 0 = .ok (.iconst 0, 1) := by decide +kernel
theorem dL_sound_1 : decode cL_sound 1 = .ok (.istore 4, 2) := by decide +kernel
theorem dL_sound_3 : decode cL_sound 3 = .ok (.iconst 0, 1) := by decide +kernel
theorem dL_sound_4 : decode cL_sound 4 = .ok (.istore 5, 2) := by decide +kernel
theorem dL_sound_6 : decode cL_sound 6 = .ok (.aload_n 0, 1) := by decide +kernel
theorem dL_sound_7 : decode cL_sound 7 = .ok (.iconst 0, 1) := by decide +kernel
theorem dL_sound_8 : decode cL_sound 8 = .ok (.invokevirtual 48, 3) := by decide +kernel
theorem dL_sound_11 : decode cL_sound 11 = .ok (.aload_n 3, 1) := by decide +kernel
theorem dL_sound_12 : decode cL_sound 12 = .ok (.iconst 2, 1) := by decide +kernel
theorem dL_sound_13 : decode cL_sound 13 = .ok (.iaload, 1) := by decide +kernel
theorem dL_sound_14 : decode cL_sound 14 = .ok (.if_icmp .gt 7, 3) := by decide +kernel
theorem dL_sound_17 : decode cL_sound 17 = .ok (.iconst 1, 1) := by decide +kernel
theorem dL_sound_18 : decode cL_sound 18 = .ok (.goto 4, 3) := by decide +kernel
theorem dL_sound_21 : decode cL_sound 21 = .ok (.iconst 0, 1) := by decide +kernel
theorem dL_sound_22 : decode cL_sound 22 = .ok (.istore 6, 2) := by decide +kernel
theorem dL_sound_24 : decode cL_sound 24 = .ok (.iconst 0, 1) := by decide +kernel
theorem dL_sound_25 : decode cL_sound 25 = .ok (.istore 7, 2) := by decide +kernel
theorem dL_sound_27 : decode cL_sound 27 = .ok (.iload 7, 2) := by decide +kernel
theorem dL_sound_29 : decode cL_sound 29 = .ok (.aload_n 3, 1) := by decide +kernel
theorem dL_sound_30 : decode cL_sound 30 = .ok (.iconst 0, 1) := by decide +kernel
theorem dL_sound_31 : decode cL_sound 31 = .ok (.iaload, 1) := by decide +kernel
theorem dL_sound_32 : decode cL_sound 32 = .ok (.if_icmp .ge 84, 3) := by decide +kernel
theorem dL_sound_35 : decode cL_sound 35 = .ok (.iload 6, 2) := by decide +kernel
theorem dL_sound_37 : decode cL_sound 37 = .ok (.ifCond .eq 79, 3) := by decide +kernel
theorem dL_sound_40 : decode cL_sound 40 = .ok (.iload 4, 2) := by decide +kernel
theorem dL_sound_42 : decode cL_sound 42 = .ok (.aload_n 0, 1) := by decide +kernel
theorem dL_sound_43 : decode cL_sound 43 = .ok (.iload 7, 2) := by decide +kernel
theorem dL_sound_45 : decode cL_sound 45 = .ok (.invokevirtual 51, 3) := by decide +kernel
theorem dL_sound_48 : decode cL_sound 48 = .ok (.iadd, 1) := by decide +kernel
theorem dL_sound_49 : decode cL_sound 49 = .ok (.istore 4, 2) := by decide +kernel
theorem dL_sound_51 : decode cL_sound 51 = .ok (.aload_n 0, 1) := by decide +kernel
theorem dL_sound_52 : decode cL_sound 52 = .ok (.iload 7, 2) := by decide +kernel
theorem dL_sound_54 : decode cL_sound 54 = .ok (.invokevirtual 48, 3) := by decide +kernel
theorem dL_sound_57 : decode cL_sound 57 = .ok (.istore 8, 2) := by decide +kernel
theorem dL_sound_59 : decode cL_sound 59 = .ok (.iload 8, 2) := by decide +kernel
theorem dL_sound_61 : decode cL_sound 61 = .ok (.ifCond .lt 46, 3) := by decide +kernel
theorem dL_sound_64 : decode cL_sound 64 = .ok (.iload 8, 2) := by decide +kernel
theorem dL_sound_66 : decode cL_sound 66 = .ok (.aload_n 1, 1) := by decide +kernel
theorem dL_sound_67 : decode cL_sound 67 = .ok (.iconst 3, 1) := by decide +kernel
theorem dL_sound_68 : decode cL_sound 68 = .ok (.iload 7, 2) := by decide +kernel
theorem dL_sound_70 : decode cL_sound 70 = .ok (.imul, 1) := by decide +kernel
theorem dL_sound_71 : decode cL_sound 71 = .ok (.iconst 1, 1) := by decide +kernel
theorem dL_sound_72 : decode cL_sound 72 = .ok (.iadd, 1) := by decide +kernel
theorem dL_sound_73 : decode cL_sound 73 = .ok (.iaload, 1) := by decide +kernel
theorem dL_sound_74 : decode cL_sound 74 = .ok (.if_icmp .gt 33, 3) := by decide +kernel
theorem dL_sound_77 : decode cL_sound 77 = .ok (.aload_n 0, 1) := by decide +kernel
theorem dL_sound_78 : decode cL_sound 78 = .ok (.iload 7, 2) := by decide +kernel
theorem dL_sound_80 : decode cL_sound 80 = .ok (.invokevirtual 51, 3) := by decide +kernel
theorem dL_sound_83 : decode cL_sound 83 = .ok (.iload 8, 2) := by decide +kernel
theorem dL_sound_85 : decode cL_sound 85 = .ok (.aload_n 1, 1) := by decide +kernel
theorem dL_sound_86 : decode cL_sound 86 = .ok (.iconst 3, 1) := by decide +kernel
theorem dL_sound_87 : decode cL_sound 87 = .ok (.iload 7, 2) := by decide +kernel
theorem dL_sound_89 : decode cL_sound 89 = .ok (.imul, 1) := by decide +kernel
theorem dL_sound_90 : decode cL_sound 90 = .ok (.iconst 2, 1) := by decide +kernel
theorem dL_sound_91 : decode cL_sound 91 = .ok (.iadd, 1) := by decide +kernel
theorem dL_sound_92 : decode cL_sound 92 = .ok (.iaload, 1) := by decide +kernel
theorem dL_sound_93 : decode cL_sound 93 = .ok (.imul, 1) := by decide +kernel
theorem dL_sound_94 : decode cL_sound 94 = .ok (.bipush 99, 2) := by decide +kernel
theorem dL_sound_96 : decode cL_sound 96 = .ok (.iadd, 1) := by decide +kernel
theorem dL_sound_97 : decode cL_sound 97 = .ok (.bipush 100, 2) := by decide +kernel
theorem dL_sound_99 : decode cL_sound 99 = .ok (.idiv, 1) := by decide +kernel
theorem dL_sound_100 : decode cL_sound 100 = .ok (.if_icmp .ne 7, 3) := by decide +kernel
theorem dL_sound_103 : decode cL_sound 103 = .ok (.iconst 1, 1) := by decide +kernel
theorem dL_sound_104 : decode cL_sound 104 = .ok (.goto 4, 3) := by decide +kernel
theorem dL_sound_107 : decode cL_sound 107 = .ok (.iconst 0, 1) := by decide +kernel
theorem dL_sound_108 : decode cL_sound 108 = .ok (.istore 6, 2) := by decide +kernel
theorem dL_sound_110 : decode cL_sound 110 = .ok (.iinc 7 1, 3) := by decide +kernel
theorem dL_sound_113 : decode cL_sound 113 = .ok (.goto (-86), 3) := by decide +kernel
theorem dL_sound_116 : decode cL_sound 116 = .ok (.iconst 0, 1) := by decide +kernel
theorem dL_sound_117 : decode cL_sound 117 = .ok (.istore 7, 2) := by decide +kernel
theorem dL_sound_119 : decode cL_sound 119 = .ok (.iload 7, 2) := by decide +kernel
theorem dL_sound_121 : decode cL_sound 121 = .ok (.aload_n 3, 1) := by decide +kernel
theorem dL_sound_122 : decode cL_sound 122 = .ok (.iconst 1, 1) := by decide +kernel
theorem dL_sound_123 : decode cL_sound 123 = .ok (.iaload, 1) := by decide +kernel
theorem dL_sound_124 : decode cL_sound 124 = .ok (.if_icmp .ge 171, 3) := by decide +kernel
theorem dL_sound_127 : decode cL_sound 127 = .ok (.iload 6, 2) := by decide +kernel
theorem dL_sound_129 : decode cL_sound 129 = .ok (.ifCond .eq 166, 3) := by decide +kernel
theorem dL_sound_132 : decode cL_sound 132 = .ok (.iload 5, 2) := by decide +kernel
theorem dL_sound_134 : decode cL_sound 134 = .ok (.aload_n 0, 1) := by decide +kernel
theorem dL_sound_135 : decode cL_sound 135 = .ok (.iload 7, 2) := by decide +kernel
theorem dL_sound_137 : decode cL_sound 137 = .ok (.invokevirtual 54, 3) := by decide +kernel
theorem dL_sound_140 : decode cL_sound 140 = .ok (.iadd, 1) := by decide +kernel
theorem dL_sound_141 : decode cL_sound 141 = .ok (.istore 5, 2) := by decide +kernel
theorem dL_sound_143 : decode cL_sound 143 = .ok (.aload_n 0, 1) := by decide +kernel
theorem dL_sound_144 : decode cL_sound 144 = .ok (.iload 7, 2) := by decide +kernel
theorem dL_sound_146 : decode cL_sound 146 = .ok (.invokevirtual 57, 3) := by decide +kernel
theorem dL_sound_149 : decode cL_sound 149 = .ok (.istore 8, 2) := by decide +kernel
theorem dL_sound_151 : decode cL_sound 151 = .ok (.aload_n 0, 1) := by decide +kernel
theorem dL_sound_152 : decode cL_sound 152 = .ok (.iload 7, 2) := by decide +kernel
theorem dL_sound_154 : decode cL_sound 154 = .ok (.invokevirtual 54, 3) := by decide +kernel
theorem dL_sound_157 : decode cL_sound 157 = .ok (.aload_n 0, 1) := by decide +kernel
theorem dL_sound_158 : decode cL_sound 158 = .ok (.iload 7, 2) := by decide +kernel
theorem dL_sound_160 : decode cL_sound 160 = .ok (.invokevirtual 60, 3) := by decide +kernel
theorem dL_sound_163 : decode cL_sound 163 = .ok (.if_icmp .ne 7, 3) := by decide +kernel
theorem dL_sound_166 : decode cL_sound 166 = .ok (.iconst 1, 1) := by decide +kernel
theorem dL_sound_167 : decode cL_sound 167 = .ok (.goto 4, 3) := by decide +kernel
theorem dL_sound_170 : decode cL_sound 170 = .ok (.iconst 0, 1) := by decide +kernel
theorem dL_sound_171 : decode cL_sound 171 = .ok (.istore 9, 2) := by decide +kernel
theorem dL_sound_173 : decode cL_sound 173 = .ok (.aload_n 0, 1) := by decide +kernel
theorem dL_sound_174 : decode cL_sound 174 = .ok (.iload 7, 2) := by decide +kernel
theorem dL_sound_176 : decode cL_sound 176 = .ok (.invokevirtual 54, 3) := by decide +kernel
theorem dL_sound_179 : decode cL_sound 179 = .ok (.ifCond .lt 69, 3) := by decide +kernel
theorem dL_sound_182 : decode cL_sound 182 = .ok (.aload_n 0, 1) := by decide +kernel
theorem dL_sound_183 : decode cL_sound 183 = .ok (.iload 7, 2) := by decide +kernel
theorem dL_sound_185 : decode cL_sound 185 = .ok (.invokevirtual 54, 3) := by decide +kernel
theorem dL_sound_188 : decode cL_sound 188 = .ok (.aload_n 0, 1) := by decide +kernel
theorem dL_sound_189 : decode cL_sound 189 = .ok (.iload 7, 2) := by decide +kernel
theorem dL_sound_191 : decode cL_sound 191 = .ok (.invokevirtual 60, 3) := by decide +kernel
theorem dL_sound_194 : decode cL_sound 194 = .ok (.if_icmp .gt 54, 3) := by decide +kernel
theorem dL_sound_197 : decode cL_sound 197 = .ok (.iload 9, 2) := by decide +kernel
theorem dL_sound_199 : decode cL_sound 199 = .ok (.iload 8, 2) := by decide +kernel
theorem dL_sound_201 : decode cL_sound 201 = .ok (.bipush (-103), 2) := by decide +kernel
theorem dL_sound_203 : decode cL_sound 203 = .ok (.if_icmp .ne 7, 3) := by decide +kernel
theorem dL_sound_206 : decode cL_sound 206 = .ok (.iconst 1, 1) := by decide +kernel
theorem dL_sound_207 : decode cL_sound 207 = .ok (.goto 4, 3) := by decide +kernel
theorem dL_sound_210 : decode cL_sound 210 = .ok (.iconst 0, 1) := by decide +kernel
theorem dL_sound_211 : decode cL_sound 211 = .ok (.if_icmp .ne 37, 3) := by decide +kernel
theorem dL_sound_214 : decode cL_sound 214 = .ok (.iload 8, 2) := by decide +kernel
theorem dL_sound_216 : decode cL_sound 216 = .ok (.ifCond .ge 20, 3) := by decide +kernel
theorem dL_sound_219 : decode cL_sound 219 = .ok (.iload 8, 2) := by decide +kernel
theorem dL_sound_221 : decode cL_sound 221 = .ok (.bipush (-103), 2) := by decide +kernel
theorem dL_sound_223 : decode cL_sound 223 = .ok (.if_icmp .eq 21, 3) := by decide +kernel
theorem dL_sound_226 : decode cL_sound 226 = .ok (.iload 8, 2) := by decide +kernel
theorem dL_sound_228 : decode cL_sound 228 = .ok (.bipush (-105), 2) := by decide +kernel
theorem dL_sound_230 : decode cL_sound 230 = .ok (.if_icmp .ne 18, 3) := by decide +kernel
theorem dL_sound_233 : decode cL_sound 233 = .ok (.goto 11, 3) := by decide +kernel
theorem dL_sound_236 : decode cL_sound 236 = .ok (.iload 8, 2) := by decide +kernel
theorem dL_sound_238 : decode cL_sound 238 = .ok (.aload_n 3, 1) := by decide +kernel
theorem dL_sound_239 : decode cL_sound 239 = .ok (.iconst 0, 1) := by decide +kernel
theorem dL_sound_240 : decode cL_sound 240 = .ok (.iaload, 1) := by decide +kernel
theorem dL_sound_241 : decode cL_sound 241 = .ok (.if_icmp .ge 7, 3) := by decide +kernel
theorem dL_sound_244 : decode cL_sound 244 = .ok (.iconst 1, 1) := by decide +kernel
theorem dL_sound_245 : decode cL_sound 245 = .ok (.goto 4, 3) := by decide +kernel
theorem dL_sound_248 : decode cL_sound 248 = .ok (.iconst 0, 1) := by decide +kernel
theorem dL_sound_249 : decode cL_sound 249 = .ok (.istore 6, 2) := by decide +kernel
theorem dL_sound_251 : decode cL_sound 251 = .ok (.iload 6, 2) := by decide +kernel
theorem dL_sound_253 : decode cL_sound 253 = .ok (.ifCond .eq 33, 3) := by decide +kernel
theorem dL_sound_256 : decode cL_sound 256 = .ok (.iload 7, 2) := by decide +kernel
theorem dL_sound_258 : decode cL_sound 258 = .ok (.ifCond .eq 24, 3) := by decide +kernel
theorem dL_sound_261 : decode cL_sound 261 = .ok (.aload_n 2, 1) := by decide +kernel
theorem dL_sound_262 : decode cL_sound 262 = .ok (.aload_n 0, 1) := by decide +kernel
theorem dL_sound_263 : decode cL_sound 263 = .ok (.iload 7, 2) := by decide +kernel
theorem dL_sound_265 : decode cL_sound 265 = .ok (.iconst 1, 1) := by decide +kernel
theorem dL_sound_266 : decode cL_sound 266 = .ok (.isub, 1) := by decide +kernel
theorem dL_sound_267 : decode cL_sound 267 = .ok (.invokevirtual 63, 3) := by decide +kernel
theorem dL_sound_270 : decode cL_sound 270 = .ok (.aload_n 0, 1) := by decide +kernel
theorem dL_sound_271 : decode cL_sound 271 = .ok (.iload 7, 2) := by decide +kernel
theorem dL_sound_273 : decode cL_sound 273 = .ok (.invokevirtual 63, 3) := by decide +kernel
theorem dL_sound_276 : decode cL_sound 276 = .ok (.invokestatic 66, 3) := by decide +kernel
theorem dL_sound_279 : decode cL_sound 279 = .ok (.ifCond .eq 7, 3) := by decide +kernel
theorem dL_sound_282 : decode cL_sound 282 = .ok (.iconst 1, 1) := by decide +kernel
theorem dL_sound_283 : decode cL_sound 283 = .ok (.goto 4, 3) := by decide +kernel
theorem dL_sound_286 : decode cL_sound 286 = .ok (.iconst 0, 1) := by decide +kernel
theorem dL_sound_287 : decode cL_sound 287 = .ok (.istore 6, 2) := by decide +kernel
theorem dL_sound_289 : decode cL_sound 289 = .ok (.iinc 7 1, 3) := by decide +kernel
theorem dL_sound_292 : decode cL_sound 292 = .ok (.goto (-173), 3) := by decide +kernel
theorem dL_sound_295 : decode cL_sound 295 = .ok (.iload 6, 2) := by decide +kernel
theorem dL_sound_297 : decode cL_sound 297 = .ok (.ifCond .eq 44, 3) := by decide +kernel
theorem dL_sound_300 : decode cL_sound 300 = .ok (.aload_n 0, 1) := by decide +kernel
theorem dL_sound_301 : decode cL_sound 301 = .ok (.iconst 0, 1) := by decide +kernel
theorem dL_sound_302 : decode cL_sound 302 = .ok (.invokevirtual 48, 3) := by decide +kernel
theorem dL_sound_305 : decode cL_sound 305 = .ok (.iload 4, 2) := by decide +kernel
theorem dL_sound_307 : decode cL_sound 307 = .ok (.iload 5, 2) := by decide +kernel
theorem dL_sound_309 : decode cL_sound 309 = .ok (.iadd, 1) := by decide +kernel
theorem dL_sound_310 : decode cL_sound 310 = .ok (.if_icmp .ne 31, 3) := by decide +kernel
theorem dL_sound_313 : decode cL_sound 313 = .ok (.aload_n 0, 1) := by decide +kernel
theorem dL_sound_314 : decode cL_sound 314 = .ok (.aload_n 3, 1) := by decide +kernel
theorem dL_sound_315 : decode cL_sound 315 = .ok (.iconst 1, 1) := by decide +kernel
theorem dL_sound_316 : decode cL_sound 316 = .ok (.iaload, 1) := by decide +kernel
theorem dL_sound_317 : decode cL_sound 317 = .ok (.invokevirtual 57, 3) := by decide +kernel
theorem dL_sound_320 : decode cL_sound 320 = .ok (.bipush (-101), 2) := by decide +kernel
theorem dL_sound_322 : decode cL_sound 322 = .ok (.if_icmp .ne 19, 3) := by decide +kernel
theorem dL_sound_325 : decode cL_sound 325 = .ok (.aload_n 0, 1) := by decide +kernel
theorem dL_sound_326 : decode cL_sound 326 = .ok (.aload_n 3, 1) := by decide +kernel
theorem dL_sound_327 : decode cL_sound 327 = .ok (.iconst 0, 1) := by decide +kernel
theorem dL_sound_328 : decode cL_sound 328 = .ok (.iaload, 1) := by decide +kernel
theorem dL_sound_329 : decode cL_sound 329 = .ok (.invokevirtual 70, 3) := by decide +kernel
theorem dL_sound_332 : decode cL_sound 332 = .ok (.bipush (-101), 2) := by decide +kernel
theorem dL_sound_334 : decode cL_sound 334 = .ok (.if_icmp .ne 7, 3) := by decide +kernel
theorem dL_sound_337 : decode cL_sound 337 = .ok (.iconst 1, 1) := by decide +kernel
theorem dL_sound_338 : decode cL_sound 338 = .ok (.goto 4, 3) := by decide +kernel
theorem dL_sound_341 : decode cL_sound 341 = .ok (.iconst 0, 1) := by decide +kernel
theorem dL_sound_342 : decode cL_sound 342 = .ok (.ireturn, 1) := by decide +kernel
theorem dL_older_0 : decode cL_older 0 = .ok (.aload_n 0, 1) := by decide +kernel
theorem dL_older_1 : decode cL_older 1 = .ok (.iconst 5, 1) := by decide +kernel
theorem dL_older_2 : decode cL_older 2 = .ok (.iload_n 1, 1) := by decide +kernel
theorem dL_older_3 : decode cL_older 3 = .ok (.imul, 1) := by decide +kernel
theorem dL_older_4 : decode cL_older 4 = .ok (.iconst 1, 1) := by decide +kernel
theorem dL_older_5 : decode cL_older 5 = .ok (.iadd, 1) := by decide +kernel
theorem dL_older_6 : decode cL_older 6 = .ok (.iaload, 1) := by decide +kernel
theorem dL_older_7 : decode cL_older 7 = .ok (.aload_n 0, 1) := by decide +kernel
theorem dL_older_8 : decode cL_older 8 = .ok (.iconst 5, 1) := by decide +kernel
theorem dL_older_9 : decode cL_older 9 = .ok (.iload_n 2, 1) := by decide +kernel
theorem dL_older_10 : decode cL_older 10 = .ok (.imul, 1) := by decide +kernel
theorem dL_older_11 : decode cL_older 11 = .ok (.iconst 1, 1) := by decide +kernel
theorem dL_older_12 : decode cL_older 12 = .ok (.iadd, 1) := by decide +kernel
theorem dL_older_13 : decode cL_older 13 = .ok (.iaload, 1) := by decide +kernel
theorem dL_older_14 : decode cL_older 14 = .ok (.if_icmp .lt 25, 3) := by decide +kernel
theorem dL_older_17 : decode cL_older 17 = .ok (.aload_n 0, 1) := by decide +kernel
theorem dL_older_18 : decode cL_older 18 = .ok (.iconst 5, 1) := by decide +kernel
theorem dL_older_19 : decode cL_older 19 = .ok (.iload_n 1, 1) := by decide +kernel
theorem dL_older_20 : decode cL_older 20 = .ok (.imul, 1) := by decide +kernel
theorem dL_older_21 : decode cL_older 21 = .ok (.iconst 1, 1) := by decide +kernel
theorem dL_older_22 : decode cL_older 22 = .ok (.iadd, 1) := by decide +kernel
theorem dL_older_23 : decode cL_older 23 = .ok (.iaload, 1) := by decide +kernel
theorem dL_older_24 : decode cL_older 24 = .ok (.aload_n 0, 1) := by decide +kernel
theorem dL_older_25 : decode cL_older 25 = .ok (.iconst 5, 1) := by decide +kernel
theorem dL_older_26 : decode cL_older 26 = .ok (.iload_n 2, 1) := by decide +kernel
theorem dL_older_27 : decode cL_older 27 = .ok (.imul, 1) := by decide +kernel
theorem dL_older_28 : decode cL_older 28 = .ok (.iconst 1, 1) := by decide +kernel
theorem dL_older_29 : decode cL_older 29 = .ok (.iadd, 1) := by decide +kernel
theorem dL_older_30 : decode cL_older 30 = .ok (.iaload, 1) := by decide +kernel
theorem dL_older_31 : decode cL_older 31 = .ok (.if_icmp .ne 12, 3) := by decide +kernel
theorem dL_older_34 : decode cL_older 34 = .ok (.iload_n 1, 1) := by decide +kernel
theorem dL_older_35 : decode cL_older 35 = .ok (.iload_n 2, 1) := by decide +kernel
theorem dL_older_36 : decode cL_older 36 = .ok (.if_icmp .ge 7, 3) := by decide +kernel
theorem dL_older_39 : decode cL_older 39 = .ok (.iconst 1, 1) := by decide +kernel
theorem dL_older_40 : decode cL_older 40 = .ok (.goto 4, 3) := by decide +kernel
theorem dL_older_43 : decode cL_older 43 = .ok (.iconst 0, 1) := by decide +kernel
theorem dL_older_44 : decode cL_older 44 = .ok (.ireturn, 1) := by decide +kernel
set_option maxRecDepth 20000 in
theorem ggL_eldest_X5_userByAge : GoodIn wsL_eldest wsX5_userByAge := goodIn_r _ [5, 6, 7, 8, 9, 10, 11, 12, 13, 202, 203, 204, 205, 206, 207, 208, 209, 210, 211, 212, 213, 214, 215, 216, 217] (by decide +kernel) (by decide +kernel)
set_option maxRecDepth 20000 in
theorem gL_eldest_X5_userByAge : GoodIn wsL_eldest (wsV RL 63 RX5 yX5_userByAge wsX5_userByAge) := goodIn_app (goodIn_of _ (by decide +kernel)) ggL_eldest_X5_userByAge
set_option maxRecDepth 20000 in
theorem ggL_eldest_X5_setRule : GoodIn wsL_eldest wsX5_setRule := goodIn_r _ [17, 6, 18, 19, 20, 4, 21, 202, 203, 204, 205, 206, 207, 208, 209, 210, 211, 212, 213, 214, 215, 216, 217] (by decide +kernel) (by decide +kernel)
set_option maxRecDepth 20000 in
theorem gL_eldest_X5_setRule : GoodIn wsL_eldest (wsV RL 24 RX5 yX5_setRule wsX5_setRule) := goodIn_app (goodIn_of _ (by decide +kernel)) ggL_eldest_X5_setRule
set_option maxRecDepth 20000 in
theorem ggL_eldest_X5_gets : GoodIn wsL_eldest wsX5_gets := goodIn_r _ [25, 6, 26, 27, 8, 9, 10, 11, 12, 13, 28, 29, 30, 31, 32, 33, 34, 35, 36, 37, 38, 39, 40, 41, 42, 43, 44, 45, 46, 47, 48, 49, 50, 51, 52, 53, 54, 55, 56, 57, 58, 59, 60, 61, 62, 63, 64, 65, 66, 67, 68, 69, 70, 71, 72, 73, 74, 75, 76, 77, 78, 79, 80, 81, 82, 83, 84, 85, 86, 87, 88, 89, 90, 91, 92, 93, 94, 95, 96, 97, 98, 99, 100, 101, 102, 103, 104, 105, 106, 107, 108, 109, 110, 111, 112, 113, 114, 115, 116, 117, 118, 119, 120, 121, 122, 123, 124, 125, 126, 127, 128, 202, 203, 204, 205, 206, 207, 218, 219, 220, 221, 222, 223, 208, 209, 210, 211, 212, 213, 214, 215, 216, 217, 224, 225, 226, 227, 228, 229, 230, 231, 232, 233, 234, 235, 236, 237, 238] (by decide +kernel) (by decide +kernel)
set_option maxRecDepth 20000 in
theorem gL_eldest_X5_gets : GoodIn wsL_eldest (wsV RL 54 RX5 yX5_gets wsX5_gets) := goodIn_app (goodIn_of _ (by decide +kernel)) ggL_eldest_X5_gets
set_option maxRecDepth 20000 in
theorem ggL_eldest_X5_save : GoodIn wsL_eldest wsX5_save := goodIn_r _ [132, 133, 6, 134, 135, 19, 20, 4, 21, 136, 137, 138, 11, 139, 140, 141, 142, 143, 144, 13, 57, 145, 43, 146, 59, 147, 48, 148, 149, 150, 106, 151, 152, 153, 108, 154, 155, 156, 73, 157, 158, 159, 160, 77, 75, 76, 82, 83, 161, 162, 163, 164, 165, 166, 167, 168, 202, 203, 204, 205, 206, 207, 208, 209, 210, 211, 212, 213, 214, 215, 216, 217, 236, 237, 238, 224, 225, 226, 227, 228, 229, 230, 231, 232, 233, 234, 235] (by decide +kernel) (by decide +kernel)
set_option maxRecDepth 20000 in
theorem gL_eldest_X5_save : GoodIn wsL_eldest (wsV RL 73 RX5 yX5_save wsX5_save) := goodIn_app (goodIn_of _ (by decide +kernel)) ggL_eldest_X5_save
set_option maxRecDepth 20000 in
theorem ggL_eldest_X5_time : GoodIn wsL_eldest wsX5_time := goodIn_r _ [172, 6, 135, 202, 203, 204, 205, 206, 207, 208, 209, 210, 211, 212, 213, 214, 215, 216, 217] (by decide +kernel) (by decide +kernel)
set_option maxRecDepth 20000 in
theorem gL_eldest_X5_time : GoodIn wsL_eldest (wsV RL 76 RX5 yX5_time wsX5_time) := goodIn_app (goodIn_of _ (by decide +kernel)) ggL_eldest_X5_time
set_option maxRecDepth 20000 in
theorem ggL_eldest_X5_gain : GoodIn wsL_eldest wsX5_gain := goodIn_r _ [176, 6, 8, 9, 10, 11, 12, 13, 177, 178, 179, 180, 57, 181, 182, 183, 184, 4, 185, 26, 27, 186, 187, 188, 28, 29, 30, 31, 32, 33, 34, 35, 36, 37, 38, 39, 40, 41, 42, 43, 44, 45, 46, 47, 48, 49, 50, 51, 52, 53, 54, 55, 56, 58, 59, 60, 61, 62, 63, 64, 65, 66, 67, 68, 69, 70, 71, 72, 73, 74, 75, 76, 77, 78, 79, 80, 81, 82, 83, 84, 85, 86, 87, 88, 89, 90, 91, 92, 93, 94, 95, 96, 97, 98, 99, 100, 101, 102, 103, 104, 105, 106, 107, 108, 109, 110, 111, 112, 113, 114, 115, 116, 117, 118, 119, 120, 121, 122, 123, 124, 125, 126, 127, 128, 136, 137, 138, 139, 140, 141, 142, 143, 144, 145, 146, 147, 148, 149, 150, 151, 152, 153, 154, 155, 156, 157, 158, 159, 160, 161, 162, 163, 164, 165, 166, 167, 168, 202, 203, 204, 205, 206, 207, 208, 209, 210, 211, 212, 213, 214, 215, 216, 217, 224, 225, 226, 227, 228, 229, 230, 231, 232, 233, 234, 235, 218, 219, 220, 221, 222, 223, 236, 237, 238] (by decide +kernel) (by decide +kernel)
set_option maxRecDepth 20000 in
theorem gL_eldest_X5_gain : GoodIn wsL_eldest (wsV RL 79 RX5 yX5_gain wsX5_gain) := goodIn_app (goodIn_of _ (by decide +kernel)) ggL_eldest_X5_gain
set_option maxRecDepth 20000 in
theorem ggL_eldest_X5_complaint : GoodIn wsL_eldest wsX5_complaint := goodIn_r _ [192, 6, 8, 9, 10, 11, 12, 13, 177, 178, 179, 180, 57, 181, 193, 194, 195, 4, 196, 26, 27, 197, 28, 29, 30, 31, 32, 33, 34, 35, 36, 37, 38, 39, 40, 41, 42, 43, 44, 45, 46, 47, 48, 49, 50, 51, 52, 53, 54, 55, 56, 58, 59, 60, 61, 62, 63, 64, 65, 66, 67, 68, 69, 70, 71, 72, 73, 74, 75, 76, 77, 78, 79, 80, 81, 82, 83, 84, 85, 86, 87, 88, 89, 90, 91, 92, 93, 94, 95, 96, 97, 98, 99, 100, 101, 102, 103, 104, 105, 106, 107, 108, 109, 110, 111, 112, 113, 114, 115, 116, 117, 118, 119, 120, 121, 122, 123, 124, 125, 126, 127, 128, 198, 199, 200, 201, 182, 183, 184, 185, 186, 187, 188, 136, 137, 138, 139, 140, 141, 142, 143, 144, 145, 146, 147, 148, 149, 150, 151, 152, 153, 154, 155, 156, 157, 158, 159, 160, 161, 162, 163, 164, 165, 166, 167, 168, 202, 203, 204, 205, 206, 207, 208, 209, 210, 211, 212, 213, 214, 215, 216, 217, 224, 225, 226, 227, 228, 229, 230, 231, 232, 233, 234, 235, 218, 219, 220, 221, 222, 223, 236, 237, 238] (by decide +kernel) (by decide +kernel)
set_option maxRecDepth 20000 in
theorem gL_eldest_X5_complaint : GoodIn wsL_eldest (wsV RL 83 RX5 yX5_complaint wsX5_complaint) := goodIn_app (goodIn_of _ (by decide +kernel)) ggL_eldest_X5_complaint
theorem dL_eldest_0 : decode cL_eldest 0 = .ok (.aload_n 0, 1) := by decide +kernel
theorem dL_eldest_1 : decode cL_eldest 1 = .ok (.iconst 0, 1) := by decide +kernel
theorem dL_eldest_2 : decode cL_eldest 2 = .ok (.invokevirtual 63, 3) := by decide +kernel
theorem dL_eldest_5 : decode cL_eldest 5 = .ok (.istore_n 2, 1) := by decide +kernel
theorem dL_eldest_6 : decode cL_eldest 6 = .ok (.aload_n 0, 1) := by decide +kernel
theorem dL_eldest_7 : decode cL_eldest 7 = .ok (.iconst 0, 1) := by decide +kernel
theorem dL_eldest_8 : decode cL_eldest 8 = .ok (.invokevirtual 24, 3) := by decide +kernel
theorem dL_eldest_11 : decode cL_eldest 11 = .ok (.istore_n 3, 1) := by decide +kernel
theorem dL_eldest_12 : decode cL_eldest 12 = .ok (.aload_n 0, 1) := by decide +kernel
theorem dL_eldest_13 : decode cL_eldest 13 = .ok (.iload_n 2, 1) := by decide +kernel
theorem dL_eldest_14 : decode cL_eldest 14 = .ok (.invokevirtual 54, 3) := by decide +kernel
theorem dL_eldest_17 : decode cL_eldest 17 = .ok (.istore 4, 2) := by decide +kernel
theorem dL_eldest_19 : decode cL_eldest 19 = .ok (.aload_n 0, 1) := by decide +kernel
theorem dL_eldest_20 : decode cL_eldest 20 = .ok (.iconst 1, 1) := by decide +kernel
theorem dL_eldest_21 : decode cL_eldest 21 = .ok (.invokevirtual 73, 3) := by decide +kernel
theorem dL_eldest_24 : decode cL_eldest 24 = .ok (.aload_n 0, 1) := by decide +kernel
theorem dL_eldest_25 : decode cL_eldest 25 = .ok (.invokevirtual 76, 3) := by decide +kernel
theorem dL_eldest_28 : decode cL_eldest 28 = .ok (.if_icmp .ne 7, 3) := by decide +kernel
theorem dL_eldest_31 : decode cL_eldest 31 = .ok (.iconst 1, 1) := by decide +kernel
theorem dL_eldest_32 : decode cL_eldest 32 = .ok (.goto 4, 3) := by decide +kernel
theorem dL_eldest_35 : decode cL_eldest 35 = .ok (.iconst 0, 1) := by decide +kernel
theorem dL_eldest_36 : decode cL_eldest 36 = .ok (.istore 5, 2) := by decide +kernel
theorem dL_eldest_38 : decode cL_eldest 38 = .ok (.iconst 0, 1) := by decide +kernel
theorem dL_eldest_39 : decode cL_eldest 39 = .ok (.istore 6, 2) := by decide +kernel
theorem dL_eldest_41 : decode cL_eldest 41 = .ok (.iload 6, 2) := by decide +kernel
theorem dL_eldest_43 : decode cL_eldest 43 = .ok (.aload_n 1, 1) := by decide +kernel
theorem dL_eldest_44 : decode cL_eldest 44 = .ok (.iconst 1, 1) := by decide +kernel
theorem dL_eldest_45 : decode cL_eldest 45 = .ok (.iaload, 1) := by decide +kernel
theorem dL_eldest_46 : decode cL_eldest 46 = .ok (.if_icmp .ge 48, 3) := by decide +kernel
theorem dL_eldest_49 : decode cL_eldest 49 = .ok (.iload 5, 2) := by decide +kernel
theorem dL_eldest_51 : decode cL_eldest 51 = .ok (.ifCond .eq 34, 3) := by decide +kernel
theorem dL_eldest_54 : decode cL_eldest 54 = .ok (.iload 6, 2) := by decide +kernel
theorem dL_eldest_56 : decode cL_eldest 56 = .ok (.iload_n 2, 1) := by decide +kernel
theorem dL_eldest_57 : decode cL_eldest 57 = .ok (.if_icmp .eq 24, 3) := by decide +kernel
theorem dL_eldest_60 : decode cL_eldest 60 = .ok (.aload_n 0, 1) := by decide +kernel
theorem dL_eldest_61 : decode cL_eldest 61 = .ok (.iload_n 2, 1) := by decide +kernel
theorem dL_eldest_62 : decode cL_eldest 62 = .ok (.iload 6, 2) := by decide +kernel
theorem dL_eldest_64 : decode cL_eldest 64 = .ok (.invokevirtual 79, 3) := by decide +kernel
theorem dL_eldest_67 : decode cL_eldest 67 = .ok (.ifCond .ne 18, 3) := by decide +kernel
theorem dL_eldest_70 : decode cL_eldest 70 = .ok (.aload_n 0, 1) := by decide +kernel
theorem dL_eldest_71 : decode cL_eldest 71 = .ok (.iload_n 2, 1) := by decide +kernel
theorem dL_eldest_72 : decode cL_eldest 72 = .ok (.iload 6, 2) := by decide +kernel
theorem dL_eldest_74 : decode cL_eldest 74 = .ok (.invokevirtual 83, 3) := by decide +kernel
theorem dL_eldest_77 : decode cL_eldest 77 = .ok (.iconst 2, 1) := by decide +kernel
theorem dL_eldest_78 : decode cL_eldest 78 = .ok (.if_icmp .eq 7, 3) := by decide +kernel
theorem dL_eldest_81 : decode cL_eldest 81 = .ok (.iconst 1, 1) := by decide +kernel
theorem dL_eldest_82 : decode cL_eldest 82 = .ok (.goto 4, 3) := by decide +kernel
theorem dL_eldest_85 : decode cL_eldest 85 = .ok (.iconst 0, 1) := by decide +kernel
theorem dL_eldest_86 : decode cL_eldest 86 = .ok (.istore 5, 2) := by decide +kernel
theorem dL_eldest_88 : decode cL_eldest 88 = .ok (.iinc 6 1, 3) := by decide +kernel
theorem dL_eldest_91 : decode cL_eldest 91 = .ok (.goto (-50), 3) := by decide +kernel
theorem dL_eldest_94 : decode cL_eldest 94 = .ok (.iload 5, 2) := by decide +kernel
theorem dL_eldest_96 : decode cL_eldest 96 = .ok (.ifCond .eq 25, 3) := by decide +kernel
theorem dL_eldest_99 : decode cL_eldest 99 = .ok (.aload_n 0, 1) := by decide +kernel
theorem dL_eldest_100 : decode cL_eldest 100 = .ok (.iload_n 2, 1) := by decide +kernel
theorem dL_eldest_101 : decode cL_eldest 101 = .ok (.invokevirtual 54, 3) := by decide +kernel
theorem dL_eldest_104 : decode cL_eldest 104 = .ok (.iload 4, 2) := by decide +kernel
theorem dL_eldest_106 : decode cL_eldest 106 = .ok (.if_icmp .ne 15, 3) := by decide +kernel
theorem dL_eldest_109 : decode cL_eldest 109 = .ok (.aload_n 0, 1) := by decide +kernel
theorem dL_eldest_110 : decode cL_eldest 110 = .ok (.iload_n 3, 1) := by decide +kernel
theorem dL_eldest_111 : decode cL_eldest 111 = .ok (.invokevirtual 24, 3) := by decide +kernel
theorem dL_eldest_114 : decode cL_eldest 114 = .ok (.ifCond .ne 7, 3) := by decide +kernel
theorem dL_eldest_117 : decode cL_eldest 117 = .ok (.iconst 1, 1) := by decide +kernel
theorem dL_eldest_118 : decode cL_eldest 118 = .ok (.goto 4, 3) := by decide +kernel
theorem dL_eldest_121 : decode cL_eldest 121 = .ok (.iconst 0, 1) := by decide +kernel
theorem dL_eldest_122 : decode cL_eldest 122 = .ok (.ireturn, 1) := by decide +kernel
set_option maxRecDepth 20000 in
theorem ggL_refuses_X5_checksum : GoodIn wsL_refuses wsX5_checksum := goodIn_r _ [5, 6, 7, 8, 9, 10, 11, 12, 13, 14, 15, 16, 17, 18, 19, 20, 21, 22, 23, 24, 25, 26, 27, 28, 29, 30, 31, 32, 33, 34, 35, 36, 37, 38, 39, 40, 41, 42, 43, 44, 45, 46, 47, 48, 49, 50, 51, 52, 53, 54, 55, 56, 57, 58, 59, 60, 61, 62, 63, 64, 65, 66, 67, 68, 69, 70, 71, 72, 73, 74, 75, 76, 77, 78, 79, 80, 81, 82, 83, 84, 85, 86, 87, 88, 89, 90, 91, 92, 93, 94, 95, 96, 97, 98, 99, 100, 101, 102, 103, 104, 105, 106, 107, 108, 109, 110, 111, 112, 113, 114, 115, 116, 117, 118, 119, 120, 121, 122, 123, 124, 125, 126, 127, 4, 128, 129, 130, 131, 132, 133, 134, 135, 340, 341, 342, 343, 344, 345, 346, 347, 348, 349, 350, 351, 352, 353, 354, 355, 356, 357, 358, 359, 360, 361, 362, 363, 364, 365, 366, 367, 368, 369, 370, 371, 372, 373, 374, 375, 376] (by decide +kernel) (by decide +kernel)
set_option maxRecDepth 20000 in
theorem gL_refuses_X5_checksum : GoodIn wsL_refuses (wsV RL 86 RX5 yX5_checksum wsX5_checksum) := goodIn_app (goodIn_of _ (by decide +kernel)) ggL_refuses_X5_checksum
set_option maxRecDepth 20000 in
theorem ggL_refuses_X5_addDitch : GoodIn wsL_refuses wsX5_addDitch := goodIn_r _ [139, 7, 11, 140, 141, 142, 29, 143, 144, 145, 146, 4, 147, 148, 149, 150, 151, 152, 153, 154, 155, 156, 157, 158, 159, 160, 161, 162, 163, 95, 164, 165, 166, 97, 340, 341, 342, 343, 344, 345, 346, 347, 348, 349, 350, 351, 352, 353, 354, 355, 374, 375, 376] (by decide +kernel) (by decide +kernel)
set_option maxRecDepth 20000 in
theorem gL_refuses_X5_addDitch : GoodIn wsL_refuses (wsV RL 28 RX5 yX5_addDitch wsX5_addDitch) := goodIn_app (goodIn_of _ (by decide +kernel)) ggL_refuses_X5_addDitch
set_option maxRecDepth 20000 in
theorem ggL_refuses_X5_setDitch : GoodIn wsL_refuses wsX5_setDitch := goodIn_r _ [170, 7, 171, 172, 173, 140, 141, 142, 29, 143, 144, 145, 146, 4, 147, 148, 149, 150, 340, 341, 342, 343, 344, 345, 346, 347, 348, 349, 350, 351, 352, 353, 354, 355, 374, 375, 376] (by decide +kernel) (by decide +kernel)
set_option maxRecDepth 20000 in
theorem gL_refuses_X5_setDitch : GoodIn wsL_refuses (wsV RL 15 RX5 yX5_setDitch wsX5_setDitch) := goodIn_app (goodIn_of _ (by decide +kernel)) ggL_refuses_X5_setDitch
set_option maxRecDepth 20000 in
theorem ggL_refuses_X5_addUser : GoodIn wsL_refuses wsX5_addUser := goodIn_r _ [177, 7, 12, 140, 141, 142, 29, 143, 144, 148, 149, 4, 150, 178, 179, 180, 181, 45, 182, 183, 184, 185, 46, 186, 187, 188, 189, 190, 191, 62, 192, 193, 194, 195, 66, 64, 65, 71, 72, 196, 197, 198, 199, 340, 341, 342, 343, 344, 345, 346, 347, 348, 349, 350, 351, 352, 353, 354, 355, 362, 363, 364, 365, 366, 367, 368, 369, 370, 371, 372, 373] (by decide +kernel) (by decide +kernel)
set_option maxRecDepth 20000 in
theorem gL_refuses_X5_addUser : GoodIn wsL_refuses (wsV RL 31 RX5 yX5_addUser wsX5_addUser) := goodIn_app (goodIn_of _ (by decide +kernel)) ggL_refuses_X5_addUser
set_option maxRecDepth 20000 in
theorem ggL_refuses_X5_setField : GoodIn wsL_refuses wsX5_setField := goodIn_r _ [203, 7, 129, 204, 205, 206, 207, 104, 105, 29, 106, 45, 148, 149, 4, 150, 208, 209, 210, 340, 341, 342, 343, 344, 345, 346, 347, 348, 349, 350, 351, 352, 353, 354, 355, 362, 363, 364, 365, 366, 367, 368, 369, 370, 371, 372, 373] (by decide +kernel) (by decide +kernel)
set_option maxRecDepth 20000 in
theorem gL_refuses_X5_setField : GoodIn wsL_refuses (wsV RL 34 RX5 yX5_setField wsX5_setField) := goodIn_app (goodIn_of _ (by decide +kernel)) ggL_refuses_X5_setField
set_option maxRecDepth 20000 in
theorem ggL_refuses_X5_setPond : GoodIn wsL_refuses wsX5_setPond := goodIn_r _ [214, 7, 129, 215, 216, 132, 217, 56, 57, 58, 207, 104, 105, 29, 106, 45, 148, 149, 4, 150, 340, 341, 342, 343, 344, 345, 346, 347, 348, 349, 350, 351, 352, 353, 354, 355, 362, 363, 364, 365, 366, 367, 368, 369, 370, 371, 372, 373] (by decide +kernel) (by decide +kernel)
set_option maxRecDepth 20000 in
theorem gL_refuses_X5_setPond : GoodIn wsL_refuses (wsV RL 38 RX5 yX5_setPond wsX5_setPond) := goodIn_app (goodIn_of _ (by decide +kernel)) ggL_refuses_X5_setPond
set_option maxRecDepth 20000 in
theorem ggL_refuses_X5_setTurn : GoodIn wsL_refuses wsX5_setTurn := goodIn_r _ [221, 7, 129, 222, 207, 104, 105, 29, 106, 45, 148, 149, 4, 150, 340, 341, 342, 343, 344, 345, 346, 347, 348, 349, 350, 351, 352, 353, 354, 355, 362, 363, 364, 365, 366, 367, 368, 369, 370, 371, 372, 373] (by decide +kernel) (by decide +kernel)
set_option maxRecDepth 20000 in
theorem gL_refuses_X5_setTurn : GoodIn wsL_refuses (wsV RL 90 RX5 yX5_setTurn wsX5_setTurn) := goodIn_app (goodIn_of _ (by decide +kernel)) ggL_refuses_X5_setTurn
set_option maxRecDepth 20000 in
theorem ggL_refuses_X5_setSupply : GoodIn wsL_refuses wsX5_setSupply := goodIn_r _ [226, 7, 227, 208, 209, 4, 210, 148, 149, 150, 228, 229, 230, 29, 231, 232, 233, 57, 234, 31, 340, 341, 342, 343, 344, 345, 346, 347, 348, 349, 350, 351, 352, 353, 354, 355] (by decide +kernel) (by decide +kernel)
set_option maxRecDepth 20000 in
theorem gL_refuses_X5_setSupply : GoodIn wsL_refuses (wsV RL 21 RX5 yX5_setSupply wsX5_setSupply) := goodIn_app (goodIn_of _ (by decide +kernel)) ggL_refuses_X5_setSupply
set_option maxRecDepth 20000 in
theorem ggL_refuses_X5_setRule : GoodIn wsL_refuses wsX5_setRule := goodIn_r _ [238, 7, 239, 148, 149, 4, 150, 340, 341, 342, 343, 344, 345, 346, 347, 348, 349, 350, 351, 352, 353, 354, 355] (by decide +kernel) (by decide +kernel)
set_option maxRecDepth 20000 in
theorem gL_refuses_X5_setRule : GoodIn wsL_refuses (wsV RL 24 RX5 yX5_setRule wsX5_setRule) := goodIn_app (goodIn_of _ (by decide +kernel)) ggL_refuses_X5_setRule
set_option maxRecDepth 20000 in
theorem ggL_refuses_X5_setFutile : GoodIn wsL_refuses wsX5_setFutile := goodIn_r _ [243, 7, 244, 148, 149, 4, 150, 340, 341, 342, 343, 344, 345, 346, 347, 348, 349, 350, 351, 352, 353, 354, 355] (by decide +kernel) (by decide +kernel)
set_option maxRecDepth 20000 in
theorem gL_refuses_X5_setFutile : GoodIn wsL_refuses (wsV RL 93 RX5 yX5_setFutile wsX5_setFutile) := goodIn_app (goodIn_of _ (by decide +kernel)) ggL_refuses_X5_setFutile
set_option maxRecDepth 20000 in
theorem ggL_refuses_X5_advance : GoodIn wsL_refuses wsX5_advance := goodIn_r _ [248, 7, 6, 148, 149, 4, 150, 249, 250, 251, 29, 252, 253, 254, 144, 45, 46, 255, 36, 256, 16, 17, 18, 19, 20, 21, 22, 23, 24, 25, 26, 27, 28, 30, 31, 32, 33, 34, 35, 37, 38, 39, 40, 41, 42, 43, 44, 47, 48, 49, 50, 51, 52, 53, 54, 55, 56, 57, 58, 59, 60, 61, 62, 63, 64, 65, 66, 67, 68, 69, 70, 71, 72, 73, 74, 75, 76, 77, 78, 79, 80, 81, 82, 83, 84, 85, 86, 87, 88, 89, 90, 91, 92, 93, 94, 95, 96, 97, 98, 99, 100, 101, 102, 103, 104, 105, 106, 107, 108, 109, 110, 111, 112, 113, 114, 115, 116, 117, 118, 119, 120, 257, 258, 122, 123, 124, 259, 260, 261, 262, 263, 264, 265, 340, 341, 342, 343, 344, 345, 346, 347, 348, 349, 350, 351, 352, 353, 354, 355, 356, 357, 358, 359, 360, 361, 362, 363, 364, 365, 366, 367, 368, 369, 370, 371, 372, 373, 374, 375, 376] (by decide +kernel) (by decide +kernel)
set_option maxRecDepth 20000 in
theorem gL_refuses_X5_advance : GoodIn wsL_refuses (wsV RL 96 RX5 yX5_advance wsX5_advance) := goodIn_app (goodIn_of _ (by decide +kernel)) ggL_refuses_X5_advance
set_option maxRecDepth 20000 in
theorem ggL_refuses_X5_gain : GoodIn wsL_refuses wsX5_gain := goodIn_r _ [269, 7, 207, 104, 105, 29, 106, 45, 270, 271, 272, 273, 46, 187, 274, 275, 276, 4, 277, 6, 131, 278, 129, 134, 15, 16, 17, 18, 19, 20, 21, 22, 23, 24, 25, 26, 27, 28, 30, 31, 32, 33, 34, 35, 36, 37, 38, 39, 40, 41, 42, 43, 44, 47, 48, 49, 50, 51, 52, 53, 54, 55, 56, 57, 58, 59, 60, 61, 62, 63, 64, 65, 66, 67, 68, 69, 70, 71, 72, 73, 74, 75, 76, 77, 78, 79, 80, 81, 82, 83, 84, 85, 86, 87, 88, 89, 90, 91, 92, 93, 94, 95, 96, 97, 98, 99, 100, 101, 102, 103, 107, 108, 109, 110, 111, 112, 113, 114, 115, 116, 117, 118, 119, 120, 279, 280, 281, 282, 144, 159, 283, 284, 285, 186, 253, 286, 161, 162, 163, 164, 165, 166, 287, 288, 289, 290, 193, 194, 195, 196, 197, 198, 199, 291, 190, 191, 192, 340, 341, 342, 343, 344, 345, 346, 347, 348, 349, 350, 351, 352, 353, 354, 355, 362, 363, 364, 365, 366, 367, 368, 369, 370, 371, 372, 373, 356, 357, 358, 359, 360, 361, 374, 375, 376] (by decide +kernel) (by decide +kernel)
set_option maxRecDepth 20000 in
theorem gL_refuses_X5_gain : GoodIn wsL_refuses (wsV RL 79 RX5 yX5_gain wsX5_gain) := goodIn_app (goodIn_of _ (by decide +kernel)) ggL_refuses_X5_gain
set_option maxRecDepth 20000 in
theorem ggL_refuses_X5_complaint : GoodIn wsL_refuses wsX5_complaint := goodIn_r _ [295, 7, 207, 104, 105, 29, 106, 45, 270, 271, 272, 273, 46, 187, 296, 297, 298, 4, 299, 6, 131, 244, 15, 16, 17, 18, 19, 20, 21, 22, 23, 24, 25, 26, 27, 28, 30, 31, 32, 33, 34, 35, 36, 37, 38, 39, 40, 41, 42, 43, 44, 47, 48, 49, 50, 51, 52, 53, 54, 55, 56, 57, 58, 59, 60, 61, 62, 63, 64, 65, 66, 67, 68, 69, 70, 71, 72, 73, 74, 75, 76, 77, 78, 79, 80, 81, 82, 83, 84, 85, 86, 87, 88, 89, 90, 91, 92, 93, 94, 95, 96, 97, 98, 99, 100, 101, 102, 103, 107, 108, 109, 110, 111, 112, 113, 114, 115, 116, 117, 118, 119, 120, 300, 301, 302, 303, 274, 275, 276, 277, 278, 129, 134, 279, 280, 281, 282, 144, 159, 283, 284, 285, 186, 253, 286, 161, 162, 163, 164, 165, 166, 287, 288, 289, 290, 193, 194, 195, 196, 197, 198, 199, 291, 190, 191, 192, 340, 341, 342, 343, 344, 345, 346, 347, 348, 349, 350, 351, 352, 353, 354, 355, 362, 363, 364, 365, 366, 367, 368, 369, 370, 371, 372, 373, 356, 357, 358, 359, 360, 361, 374, 375, 376] (by decide +kernel) (by decide +kernel)
set_option maxRecDepth 20000 in
theorem gL_refuses_X5_complaint : GoodIn wsL_refuses (wsV RL 83 RX5 yX5_complaint wsX5_complaint) := goodIn_app (goodIn_of _ (by decide +kernel)) ggL_refuses_X5_complaint
set_option maxRecDepth 20000 in
theorem ggL_refuses_X5_willMiss : GoodIn wsL_refuses wsX5_willMiss := goodIn_r _ [307, 7, 278, 6, 129, 133, 207, 104, 105, 29, 106, 45, 148, 149, 4, 150, 279, 280, 281, 282, 144, 159, 283, 284, 285, 46, 186, 31, 253, 48, 286, 36, 161, 162, 163, 95, 164, 165, 166, 97, 287, 288, 289, 62, 290, 193, 194, 195, 66, 64, 65, 71, 72, 196, 197, 198, 199, 291, 190, 191, 192, 249, 250, 251, 252, 254, 255, 256, 16, 17, 18, 19, 20, 21, 22, 23, 24, 25, 26, 27, 28, 30, 32, 33, 34, 35, 37, 38, 39, 40, 41, 42, 43, 44, 47, 49, 50, 51, 52, 53, 54, 55, 56, 57, 58, 59, 60, 61, 63, 67, 68, 69, 70, 73, 74, 75, 76, 77, 78, 79, 80, 81, 82, 83, 84, 85, 86, 87, 88, 89, 90, 91, 92, 93, 94, 96, 98, 99, 100, 101, 102, 103, 107, 108, 109, 110, 111, 112, 113, 114, 115, 116, 117, 118, 119, 120, 257, 258, 122, 123, 124, 259, 260, 261, 262, 263, 264, 265, 340, 341, 342, 343, 344, 345, 346, 347, 348, 349, 350, 351, 352, 353, 354, 355, 362, 363, 364, 365, 366, 367, 368, 369, 370, 371, 372, 373, 374, 375, 376, 356, 357, 358, 359, 360, 361] (by decide +kernel) (by decide +kernel)
set_option maxRecDepth 20000 in
theorem gL_refuses_X5_willMiss : GoodIn wsL_refuses (wsV RL 99 RX5 yX5_willMiss wsX5_willMiss) := goodIn_app (goodIn_of _ (by decide +kernel)) ggL_refuses_X5_willMiss
set_option maxRecDepth 20000 in
theorem ggL_refuses_X5_append : GoodIn wsL_refuses wsX5_append := goodIn_r _ [311, 312, 313, 148, 149, 4, 150, 314, 315, 316, 317, 318, 319, 320, 321, 322, 323, 324, 325, 340, 341, 342, 343, 344, 345, 377, 378, 379, 380, 381] (by decide +kernel) (by decide +kernel)
set_option maxRecDepth 20000 in
theorem gL_refuses_X5_append : GoodIn wsL_refuses (wsV RL 102 RX5 yX5_append wsX5_append) := goodIn_app (goodIn_of _ (by decide +kernel)) ggL_refuses_X5_append
set_option maxRecDepth 20000 in
theorem ggL_refuses_X5_save : GoodIn wsL_refuses wsX5_save := goodIn_r _ [329, 330, 7, 331, 10, 148, 149, 4, 150, 279, 280, 281, 29, 282, 144, 159, 283, 284, 285, 45, 46, 186, 31, 253, 48, 286, 36, 161, 162, 163, 95, 164, 165, 166, 97, 287, 288, 289, 62, 290, 193, 194, 195, 66, 64, 65, 71, 72, 196, 197, 198, 199, 291, 190, 191, 192, 340, 341, 342, 343, 344, 345, 346, 347, 348, 349, 350, 351, 352, 353, 354, 355, 374, 375, 376, 362, 363, 364, 365, 366, 367, 368, 369, 370, 371, 372, 373] (by decide +kernel) (by decide +kernel)
set_option maxRecDepth 20000 in
theorem gL_refuses_X5_save : GoodIn wsL_refuses (wsV RL 73 RX5 yX5_save wsX5_save) := goodIn_app (goodIn_of _ (by decide +kernel)) ggL_refuses_X5_save
set_option maxRecDepth 20000 in
theorem ggL_refuses_X5_restore : GoodIn wsL_refuses wsX5_restore := goodIn_r _ [335, 331, 7, 330, 10, 148, 149, 4, 150, 279, 280, 281, 29, 282, 144, 159, 283, 284, 285, 45, 46, 186, 31, 253, 48, 286, 36, 161, 162, 163, 95, 164, 165, 166, 97, 287, 288, 289, 62, 290, 193, 194, 195, 66, 64, 65, 71, 72, 196, 197, 198, 199, 291, 190, 191, 192, 340, 341, 342, 343, 344, 345, 346, 347, 348, 349, 350, 351, 352, 353, 354, 355, 374, 375, 376, 362, 363, 364, 365, 366, 367, 368, 369, 370, 371, 372, 373] (by decide +kernel) (by decide +kernel)
set_option maxRecDepth 20000 in
theorem gL_refuses_X5_restore : GoodIn wsL_refuses (wsV RL 105 RX5 yX5_restore wsX5_restore) := goodIn_app (goodIn_of _ (by decide +kernel)) ggL_refuses_X5_restore
set_option maxRecDepth 20000 in
theorem ggL_refuses_X5_isShut : GoodIn wsL_refuses wsX5_isShut := goodIn_r _ [339, 7, 129, 134, 207, 104, 105, 29, 106, 45, 340, 341, 342, 343, 344, 345, 346, 347, 348, 349, 350, 351, 352, 353, 354, 355, 362, 363, 364, 365, 366, 367, 368, 369, 370, 371, 372, 373] (by decide +kernel) (by decide +kernel)
set_option maxRecDepth 20000 in
theorem gL_refuses_X5_isShut : GoodIn wsL_refuses (wsV RL 108 RX5 yX5_isShut wsX5_isShut) := goodIn_app (goodIn_of _ (by decide +kernel)) ggL_refuses_X5_isShut
theorem dL_refuses_0 : decode cL_refuses 0 = .ok (.aload_n 0, 1) := by decide +kernel
theorem dL_refuses_1 : decode cL_refuses 1 = .ok (.invokevirtual 86, 3) := by decide +kernel
theorem dL_refuses_4 : decode cL_refuses 4 = .ok (.lstore_n 2, 1) := by decide +kernel
theorem dL_refuses_5 : decode cL_refuses 5 = .ok (.aload_n 0, 1) := by decide +kernel
theorem dL_refuses_6 : decode cL_refuses 6 = .ok (.aload_n 1, 1) := by decide +kernel
theorem dL_refuses_7 : decode cL_refuses 7 = .ok (.iconst 0, 1) := by decide +kernel
theorem dL_refuses_8 : decode cL_refuses 8 = .ok (.iaload, 1) := by decide +kernel
theorem dL_refuses_9 : decode cL_refuses 9 = .ok (.iconst 1, 1) := by decide +kernel
theorem dL_refuses_10 : decode cL_refuses 10 = .ok (.iconst 0, 1) := by decide +kernel
theorem dL_refuses_11 : decode cL_refuses 11 = .ok (.invokevirtual 28, 3) := by decide +kernel
theorem dL_refuses_14 : decode cL_refuses 14 = .ok (.bipush (-101), 2) := by decide +kernel
theorem dL_refuses_16 : decode cL_refuses 16 = .ok (.if_icmp .ne 76, 3) := by decide +kernel
theorem dL_refuses_19 : decode cL_refuses 19 = .ok (.aload_n 0, 1) := by decide +kernel
theorem dL_refuses_20 : decode cL_refuses 20 = .ok (.iconst 0, 1) := by decide +kernel
theorem dL_refuses_21 : decode cL_refuses 21 = .ok (.sipush 201, 3) := by decide +kernel
theorem dL_refuses_24 : decode cL_refuses 24 = .ok (.iconst 0, 1) := by decide +kernel
theorem dL_refuses_25 : decode cL_refuses 25 = .ok (.invokevirtual 28, 3) := by decide +kernel
theorem dL_refuses_28 : decode cL_refuses 28 = .ok (.bipush (-102), 2) := by decide +kernel
theorem dL_refuses_30 : decode cL_refuses 30 = .ok (.if_icmp .ne 62, 3) := by decide +kernel
theorem dL_refuses_33 : decode cL_refuses 33 = .ok (.aload_n 0, 1) := by decide +kernel
theorem dL_refuses_34 : decode cL_refuses 34 = .ok (.iconst 0, 1) := by decide +kernel
theorem dL_refuses_35 : decode cL_refuses 35 = .ok (.iconst 1, 1) := by decide +kernel
theorem dL_refuses_36 : decode cL_refuses 36 = .ok (.bipush 51, 2) := by decide +kernel
theorem dL_refuses_38 : decode cL_refuses 38 = .ok (.invokevirtual 15, 3) := by decide +kernel
theorem dL_refuses_41 : decode cL_refuses 41 = .ok (.bipush (-102), 2) := by decide +kernel
theorem dL_refuses_43 : decode cL_refuses 43 = .ok (.if_icmp .ne 49, 3) := by decide +kernel
theorem dL_refuses_46 : decode cL_refuses 46 = .ok (.aload_n 0, 1) := by decide +kernel
theorem dL_refuses_47 : decode cL_refuses 47 = .ok (.iconst (-1), 1) := by decide +kernel
theorem dL_refuses_48 : decode cL_refuses 48 = .ok (.sipush 1900, 3) := by decide +kernel
theorem dL_refuses_51 : decode cL_refuses 51 = .ok (.iconst 1, 1) := by decide +kernel
theorem dL_refuses_52 : decode cL_refuses 52 = .ok (.invokevirtual 31, 3) := by decide +kernel
theorem dL_refuses_55 : decode cL_refuses 55 = .ok (.bipush (-101), 2) := by decide +kernel
theorem dL_refuses_57 : decode cL_refuses 57 = .ok (.if_icmp .ne 35, 3) := by decide +kernel
theorem dL_refuses_60 : decode cL_refuses 60 = .ok (.aload_n 0, 1) := by decide +kernel
theorem dL_refuses_61 : decode cL_refuses 61 = .ok (.iconst 0, 1) := by decide +kernel
theorem dL_refuses_62 : decode cL_refuses 62 = .ok (.sipush 1799, 3) := by decide +kernel
theorem dL_refuses_65 : decode cL_refuses 65 = .ok (.iconst 1, 1) := by decide +kernel
theorem dL_refuses_66 : decode cL_refuses 66 = .ok (.invokevirtual 31, 3) := by decide +kernel
theorem dL_refuses_69 : decode cL_refuses 69 = .ok (.bipush (-102), 2) := by decide +kernel
theorem dL_refuses_71 : decode cL_refuses 71 = .ok (.if_icmp .ne 21, 3) := by decide +kernel
theorem dL_refuses_74 : decode cL_refuses 74 = .ok (.aload_n 0, 1) := by decide +kernel
theorem dL_refuses_75 : decode cL_refuses 75 = .ok (.iconst 0, 1) := by decide +kernel
theorem dL_refuses_76 : decode cL_refuses 76 = .ok (.bipush 61, 2) := by decide +kernel
theorem dL_refuses_78 : decode cL_refuses 78 = .ok (.iconst 0, 1) := by decide +kernel
theorem dL_refuses_79 : decode cL_refuses 79 = .ok (.iconst 1, 1) := by decide +kernel
theorem dL_refuses_80 : decode cL_refuses 80 = .ok (.invokevirtual 34, 3) := by decide +kernel
theorem dL_refuses_83 : decode cL_refuses 83 = .ok (.bipush (-102), 2) := by decide +kernel
theorem dL_refuses_85 : decode cL_refuses 85 = .ok (.if_icmp .ne 7, 3) := by decide +kernel
theorem dL_refuses_88 : decode cL_refuses 88 = .ok (.iconst 1, 1) := by decide +kernel
theorem dL_refuses_89 : decode cL_refuses 89 = .ok (.goto 4, 3) := by decide +kernel
theorem dL_refuses_92 : decode cL_refuses 92 = .ok (.iconst 0, 1) := by decide +kernel
theorem dL_refuses_93 : decode cL_refuses 93 = .ok (.istore 4, 2) := by decide +kernel
theorem dL_refuses_95 : decode cL_refuses 95 = .ok (.iload 4, 2) := by decide +kernel
theorem dL_refuses_97 : decode cL_refuses 97 = .ok (.ifCond .eq 89, 3) := by decide +kernel
theorem dL_refuses_100 : decode cL_refuses 100 = .ok (.aload_n 0, 1) := by decide +kernel
theorem dL_refuses_101 : decode cL_refuses 101 = .ok (.iconst 0, 1) := by decide +kernel
theorem dL_refuses_102 : decode cL_refuses 102 = .ok (.iconst 1, 1) := by decide +kernel
theorem dL_refuses_103 : decode cL_refuses 103 = .ok (.iconst 5, 1) := by decide +kernel
theorem dL_refuses_104 : decode cL_refuses 104 = .ok (.iconst 5, 1) := by decide +kernel
theorem dL_refuses_105 : decode cL_refuses 105 = .ok (.invokevirtual 34, 3) := by decide +kernel
theorem dL_refuses_108 : decode cL_refuses 108 = .ok (.bipush (-102), 2) := by decide +kernel
theorem dL_refuses_110 : decode cL_refuses 110 = .ok (.if_icmp .ne 76, 3) := by decide +kernel
theorem dL_refuses_113 : decode cL_refuses 113 = .ok (.aload_n 0, 1) := by decide +kernel
theorem dL_refuses_114 : decode cL_refuses 114 = .ok (.iconst 0, 1) := by decide +kernel
theorem dL_refuses_115 : decode cL_refuses 115 = .ok (.sipush 501, 3) := by decide +kernel
theorem dL_refuses_118 : decode cL_refuses 118 = .ok (.iconst 0, 1) := by decide +kernel
theorem dL_refuses_119 : decode cL_refuses 119 = .ok (.invokevirtual 38, 3) := by decide +kernel
theorem dL_refuses_122 : decode cL_refuses 122 = .ok (.bipush (-102), 2) := by decide +kernel
theorem dL_refuses_124 : decode cL_refuses 124 = .ok (.if_icmp .ne 62, 3) := by decide +kernel
theorem dL_refuses_127 : decode cL_refuses 127 = .ok (.aload_n 0, 1) := by decide +kernel
theorem dL_refuses_128 : decode cL_refuses 128 = .ok (.iconst 0, 1) := by decide +kernel
theorem dL_refuses_129 : decode cL_refuses 129 = .ok (.bipush 25, 2) := by decide +kernel
theorem dL_refuses_131 : decode cL_refuses 131 = .ok (.invokevirtual 90, 3) := by decide +kernel
theorem dL_refuses_134 : decode cL_refuses 134 = .ok (.bipush (-102), 2) := by decide +kernel
theorem dL_refuses_136 : decode cL_refuses 136 = .ok (.if_icmp .ne 50, 3) := by decide +kernel
theorem dL_refuses_139 : decode cL_refuses 139 = .ok (.aload_n 0, 1) := by decide +kernel
theorem dL_refuses_140 : decode cL_refuses 140 = .ok (.iconst 3, 1) := by decide +kernel
theorem dL_refuses_141 : decode cL_refuses 141 = .ok (.iconst 3, 1) := by decide +kernel
theorem dL_refuses_142 : decode cL_refuses 142 = .ok (.iconst 1, 1) := by decide +kernel
theorem dL_refuses_143 : decode cL_refuses 143 = .ok (.invokevirtual 21, 3) := by decide +kernel
theorem dL_refuses_146 : decode cL_refuses 146 = .ok (.bipush (-102), 2) := by decide +kernel
theorem dL_refuses_148 : decode cL_refuses 148 = .ok (.if_icmp .ne 38, 3) := by decide +kernel
theorem dL_refuses_151 : decode cL_refuses 151 = .ok (.aload_n 0, 1) := by decide +kernel
theorem dL_refuses_152 : decode cL_refuses 152 = .ok (.iconst 3, 1) := by decide +kernel
theorem dL_refuses_153 : decode cL_refuses 153 = .ok (.invokevirtual 24, 3) := by decide +kernel
theorem dL_refuses_156 : decode cL_refuses 156 = .ok (.bipush (-102), 2) := by decide +kernel
theorem dL_refuses_158 : decode cL_refuses 158 = .ok (.if_icmp .ne 28, 3) := by decide +kernel
theorem dL_refuses_161 : decode cL_refuses 161 = .ok (.aload_n 0, 1) := by decide +kernel
theorem dL_refuses_162 : decode cL_refuses 162 = .ok (.bipush 101, 2) := by decide +kernel
theorem dL_refuses_164 : decode cL_refuses 164 = .ok (.invokevirtual 93, 3) := by decide +kernel
theorem dL_refuses_167 : decode cL_refuses 167 = .ok (.bipush (-102), 2) := by decide +kernel
theorem dL_refuses_169 : decode cL_refuses 169 = .ok (.if_icmp .ne 17, 3) := by decide +kernel
theorem dL_refuses_172 : decode cL_refuses 172 = .ok (.aload_n 0, 1) := by decide +kernel
theorem dL_refuses_173 : decode cL_refuses 173 = .ok (.iconst 0, 1) := by decide +kernel
theorem dL_refuses_174 : decode cL_refuses 174 = .ok (.invokevirtual 96, 3) := by decide +kernel
theorem dL_refuses_177 : decode cL_refuses 177 = .ok (.bipush (-102), 2) := by decide +kernel
theorem dL_refuses_179 : decode cL_refuses 179 = .ok (.if_icmp .ne 7, 3) := by decide +kernel
theorem dL_refuses_182 : decode cL_refuses 182 = .ok (.iconst 1, 1) := by decide +kernel
theorem dL_refuses_183 : decode cL_refuses 183 = .ok (.goto 4, 3) := by decide +kernel
theorem dL_refuses_186 : decode cL_refuses 186 = .ok (.iconst 0, 1) := by decide +kernel
theorem dL_refuses_187 : decode cL_refuses 187 = .ok (.istore 4, 2) := by decide +kernel
theorem dL_refuses_189 : decode cL_refuses 189 = .ok (.iload 4, 2) := by decide +kernel
theorem dL_refuses_191 : decode cL_refuses 191 = .ok (.ifCond .eq 84, 3) := by decide +kernel
theorem dL_refuses_194 : decode cL_refuses 194 = .ok (.aload_n 0, 1) := by decide +kernel
theorem dL_refuses_195 : decode cL_refuses 195 = .ok (.iconst 0, 1) := by decide +kernel
theorem dL_refuses_196 : decode cL_refuses 196 = .ok (.aload_n 1, 1) := by decide +kernel
theorem dL_refuses_197 : decode cL_refuses 197 = .ok (.iconst 1, 1) := by decide +kernel
theorem dL_refuses_198 : decode cL_refuses 198 = .ok (.iaload, 1) := by decide +kernel
theorem dL_refuses_199 : decode cL_refuses 199 = .ok (.invokevirtual 79, 3) := by decide +kernel
theorem dL_refuses_202 : decode cL_refuses 202 = .ok (.bipush (-101), 2) := by decide +kernel
theorem dL_refuses_204 : decode cL_refuses 204 = .ok (.if_icmp .ne 71, 3) := by decide +kernel
theorem dL_refuses_207 : decode cL_refuses 207 = .ok (.aload_n 0, 1) := by decide +kernel
theorem dL_refuses_208 : decode cL_refuses 208 = .ok (.iconst 0, 1) := by decide +kernel
theorem dL_refuses_209 : decode cL_refuses 209 = .ok (.iconst 0, 1) := by decide +kernel
theorem dL_refuses_210 : decode cL_refuses 210 = .ok (.invokevirtual 83, 3) := by decide +kernel
theorem dL_refuses_213 : decode cL_refuses 213 = .ok (.bipush (-103), 2) := by decide +kernel
theorem dL_refuses_215 : decode cL_refuses 215 = .ok (.if_icmp .ne 60, 3) := by decide +kernel
theorem dL_refuses_218 : decode cL_refuses 218 = .ok (.aload_n 0, 1) := by decide +kernel
theorem dL_refuses_219 : decode cL_refuses 219 = .ok (.iconst 0, 1) := by decide +kernel
theorem dL_refuses_220 : decode cL_refuses 220 = .ok (.iconst 0, 1) := by decide +kernel
theorem dL_refuses_221 : decode cL_refuses 221 = .ok (.invokevirtual 99, 3) := by decide +kernel
theorem dL_refuses_224 : decode cL_refuses 224 = .ok (.bipush (-102), 2) := by decide +kernel
theorem dL_refuses_226 : decode cL_refuses 226 = .ok (.if_icmp .ne 49, 3) := by decide +kernel
theorem dL_refuses_229 : decode cL_refuses 229 = .ok (.aload_n 0, 1) := by decide +kernel
theorem dL_refuses_230 : decode cL_refuses 230 = .ok (.sipush 128, 3) := by decide +kernel
theorem dL_refuses_233 : decode cL_refuses 233 = .ok (.invokevirtual 102, 3) := by decide +kernel
theorem dL_refuses_236 : decode cL_refuses 236 = .ok (.bipush (-102), 2) := by decide +kernel
theorem dL_refuses_238 : decode cL_refuses 238 = .ok (.if_icmp .ne 37, 3) := by decide +kernel
theorem dL_refuses_241 : decode cL_refuses 241 = .ok (.aload_n 0, 1) := by decide +kernel
theorem dL_refuses_242 : decode cL_refuses 242 = .ok (.iconst 2, 1) := by decide +kernel
theorem dL_refuses_243 : decode cL_refuses 243 = .ok (.invokevirtual 73, 3) := by decide +kernel
theorem dL_refuses_246 : decode cL_refuses 246 = .ok (.bipush (-101), 2) := by decide +kernel
theorem dL_refuses_248 : decode cL_refuses 248 = .ok (.if_icmp .ne 27, 3) := by decide +kernel
theorem dL_refuses_251 : decode cL_refuses 251 = .ok (.aload_n 0, 1) := by decide +kernel
theorem dL_refuses_252 : decode cL_refuses 252 = .ok (.iconst 2, 1) := by decide +kernel
theorem dL_refuses_253 : decode cL_refuses 253 = .ok (.invokevirtual 105, 3) := by decide +kernel
theorem dL_refuses_256 : decode cL_refuses 256 = .ok (.bipush (-101), 2) := by decide +kernel
theorem dL_refuses_258 : decode cL_refuses 258 = .ok (.if_icmp .ne 17, 3) := by decide +kernel
theorem dL_refuses_261 : decode cL_refuses 261 = .ok (.aload_n 0, 1) := by decide +kernel
theorem dL_refuses_262 : decode cL_refuses 262 = .ok (.iconst (-1), 1) := by decide +kernel
theorem dL_refuses_263 : decode cL_refuses 263 = .ok (.invokevirtual 108, 3) := by decide +kernel
theorem dL_refuses_266 : decode cL_refuses 266 = .ok (.bipush (-101), 2) := by decide +kernel
theorem dL_refuses_268 : decode cL_refuses 268 = .ok (.if_icmp .ne 7, 3) := by decide +kernel
theorem dL_refuses_271 : decode cL_refuses 271 = .ok (.iconst 1, 1) := by decide +kernel
theorem dL_refuses_272 : decode cL_refuses 272 = .ok (.goto 4, 3) := by decide +kernel
theorem dL_refuses_275 : decode cL_refuses 275 = .ok (.iconst 0, 1) := by decide +kernel
theorem dL_refuses_276 : decode cL_refuses 276 = .ok (.istore 4, 2) := by decide +kernel
theorem dL_refuses_278 : decode cL_refuses 278 = .ok (.iload 4, 2) := by decide +kernel
theorem dL_refuses_280 : decode cL_refuses 280 = .ok (.ifCond .eq 16, 3) := by decide +kernel
theorem dL_refuses_283 : decode cL_refuses 283 = .ok (.aload_n 0, 1) := by decide +kernel
theorem dL_refuses_284 : decode cL_refuses 284 = .ok (.invokevirtual 86, 3) := by decide +kernel
theorem dL_refuses_287 : decode cL_refuses 287 = .ok (.lload_n 2, 1) := by decide +kernel
theorem dL_refuses_288 : decode cL_refuses 288 = .ok (.lcmp, 1) := by decide +kernel
theorem dL_refuses_289 : decode cL_refuses 289 = .ok (.ifCond .ne 7, 3) := by decide +kernel
theorem dL_refuses_292 : decode cL_refuses 292 = .ok (.iconst 1, 1) := by decide +kernel
theorem dL_refuses_293 : decode cL_refuses 293 = .ok (.goto 4, 3) := by decide +kernel
theorem dL_refuses_296 : decode cL_refuses 296 = .ok (.iconst 0, 1) := by decide +kernel
theorem dL_refuses_297 : decode cL_refuses 297 = .ok (.ireturn, 1) := by decide +kernel
theorem dL_law_0 : decode cL_law 0 = .ok (.new 16, 3) := by decide +kernel
theorem dL_law_3 : decode cL_law 3 = .ok (.dup, 1) := by decide +kernel
theorem dL_law_4 : decode cL_law 4 = .ok (.invokespecial 111, 3) := by decide +kernel
theorem dL_law_7 : decode cL_law 7 = .ok (.astore_n 1, 1) := by decide +kernel
theorem dL_law_8 : decode cL_law 8 = .ok (.bipush 32, 2) := by decide +kernel
theorem dL_law_10 : decode cL_law 10 = .ok (.newarray .int, 2) := by decide +kernel
theorem dL_law_12 : decode cL_law 12 = .ok (.astore_n 2, 1) := by decide +kernel
theorem dL_law_13 : decode cL_law 13 = .ok (.bipush 64, 2) := by decide +kernel
theorem dL_law_15 : decode cL_law 15 = .ok (.newarray .int, 2) := by decide +kernel
theorem dL_law_17 : decode cL_law 17 = .ok (.astore_n 3, 1) := by decide +kernel
theorem dL_law_18 : decode cL_law 18 = .ok (.iconst 4, 1) := by decide +kernel
theorem dL_law_19 : decode cL_law 19 = .ok (.newarray .int, 2) := by decide +kernel
theorem dL_law_21 : decode cL_law 21 = .ok (.astore 4, 2) := by decide +kernel
theorem dL_law_23 : decode cL_law 23 = .ok (.aload_n 1, 1) := by decide +kernel
theorem dL_law_24 : decode cL_law 24 = .ok (.iconst 1, 1) := by decide +kernel
theorem dL_law_25 : decode cL_law 25 = .ok (.invokevirtual 105, 3) := by decide +kernel
theorem dL_law_28 : decode cL_law 28 = .ok (.bipush (-103), 2) := by decide +kernel
theorem dL_law_30 : decode cL_law 30 = .ok (.if_icmp .ne 58, 3) := by decide +kernel
theorem dL_law_33 : decode cL_law 33 = .ok (.aload_n 1, 1) := by decide +kernel
theorem dL_law_34 : decode cL_law 34 = .ok (.invokevirtual 112, 3) := by decide +kernel
theorem dL_law_37 : decode cL_law 37 = .ok (.bipush (-105), 2) := by decide +kernel
theorem dL_law_39 : decode cL_law 39 = .ok (.if_icmp .ne 49, 3) := by decide +kernel
theorem dL_law_42 : decode cL_law 42 = .ok (.aload_n 1, 1) := by decide +kernel
theorem dL_law_43 : decode cL_law 43 = .ok (.aload_n 0, 1) := by decide +kernel
theorem dL_law_44 : decode cL_law 44 = .ok (.iconst 0, 1) := by decide +kernel
theorem dL_law_45 : decode cL_law 45 = .ok (.aload_n 2, 1) := by decide +kernel
theorem dL_law_46 : decode cL_law 46 = .ok (.aload_n 3, 1) := by decide +kernel
theorem dL_law_47 : decode cL_law 47 = .ok (.aload 4, 2) := by decide +kernel
theorem dL_law_49 : decode cL_law 49 = .ok (.invokestatic 115, 3) := by decide +kernel
theorem dL_law_52 : decode cL_law 52 = .ok (.ifCond .eq 36, 3) := by decide +kernel
theorem dL_law_55 : decode cL_law 55 = .ok (.aload_n 1, 1) := by decide +kernel
theorem dL_law_56 : decode cL_law 56 = .ok (.aload_n 2, 1) := by decide +kernel
theorem dL_law_57 : decode cL_law 57 = .ok (.aload_n 3, 1) := by decide +kernel
theorem dL_law_58 : decode cL_law 58 = .ok (.aload 4, 2) := by decide +kernel
theorem dL_law_60 : decode cL_law 60 = .ok (.invokestatic 119, 3) := by decide +kernel
theorem dL_law_63 : decode cL_law 63 = .ok (.ifCond .eq 25, 3) := by decide +kernel
theorem dL_law_66 : decode cL_law 66 = .ok (.aload_n 1, 1) := by decide +kernel
theorem dL_law_67 : decode cL_law 67 = .ok (.aload 4, 2) := by decide +kernel
theorem dL_law_69 : decode cL_law 69 = .ok (.invokestatic 123, 3) := by decide +kernel
theorem dL_law_72 : decode cL_law 72 = .ok (.ifCond .eq 16, 3) := by decide +kernel
theorem dL_law_75 : decode cL_law 75 = .ok (.aload_n 1, 1) := by decide +kernel
theorem dL_law_76 : decode cL_law 76 = .ok (.aload 4, 2) := by decide +kernel
theorem dL_law_78 : decode cL_law 78 = .ok (.invokestatic 127, 3) := by decide +kernel
theorem dL_law_81 : decode cL_law 81 = .ok (.ifCond .eq 7, 3) := by decide +kernel
theorem dL_law_84 : decode cL_law 84 = .ok (.iconst 1, 1) := by decide +kernel
theorem dL_law_85 : decode cL_law 85 = .ok (.goto 4, 3) := by decide +kernel
theorem dL_law_88 : decode cL_law 88 = .ok (.iconst 0, 1) := by decide +kernel
theorem dL_law_89 : decode cL_law 89 = .ok (.istore 5, 2) := by decide +kernel
theorem dL_law_91 : decode cL_law 91 = .ok (.aload_n 0, 1) := by decide +kernel
theorem dL_law_92 : decode cL_law 92 = .ok (.bipush 11, 2) := by decide +kernel
theorem dL_law_94 : decode cL_law 94 = .ok (.invokestatic 9, 3) := by decide +kernel
theorem dL_law_97 : decode cL_law 97 = .ok (.istore 6, 2) := by decide +kernel
theorem dL_law_99 : decode cL_law 99 = .ok (.iconst 0, 1) := by decide +kernel
theorem dL_law_100 : decode cL_law 100 = .ok (.istore 7, 2) := by decide +kernel
theorem dL_law_102 : decode cL_law 102 = .ok (.iconst 0, 1) := by decide +kernel
theorem dL_law_103 : decode cL_law 103 = .ok (.istore 8, 2) := by decide +kernel
theorem dL_law_105 : decode cL_law 105 = .ok (.iload 8, 2) := by decide +kernel
theorem dL_law_107 : decode cL_law 107 = .ok (.aload 4, 2) := by decide +kernel
theorem dL_law_109 : decode cL_law 109 = .ok (.iconst 1, 1) := by decide +kernel
theorem dL_law_110 : decode cL_law 110 = .ok (.iaload, 1) := by decide +kernel
theorem dL_law_111 : decode cL_law 111 = .ok (.if_icmp .ge 50, 3) := by decide +kernel
theorem dL_law_114 : decode cL_law 114 = .ok (.iload 5, 2) := by decide +kernel
theorem dL_law_116 : decode cL_law 116 = .ok (.ifCond .eq 45, 3) := by decide +kernel
theorem dL_law_119 : decode cL_law 119 = .ok (.iload 6, 2) := by decide +kernel
theorem dL_law_121 : decode cL_law 121 = .ok (.iconst 2, 1) := by decide +kernel
theorem dL_law_122 : decode cL_law 122 = .ok (.iload 8, 2) := by decide +kernel
theorem dL_law_124 : decode cL_law 124 = .ok (.imul, 1) := by decide +kernel
theorem dL_law_125 : decode cL_law 125 = .ok (.ishr, 1) := by decide +kernel
theorem dL_law_126 : decode cL_law 126 = .ok (.iconst 4, 1) := by decide +kernel
theorem dL_law_127 : decode cL_law 127 = .ok (.irem, 1) := by decide +kernel
theorem dL_law_128 : decode cL_law 128 = .ok (.istore 9, 2) := by decide +kernel
theorem dL_law_130 : decode cL_law 130 = .ok (.iload 7, 2) := by decide +kernel
theorem dL_law_132 : decode cL_law 132 = .ok (.iload 9, 2) := by decide +kernel
theorem dL_law_134 : decode cL_law 134 = .ok (.iadd, 1) := by decide +kernel
theorem dL_law_135 : decode cL_law 135 = .ok (.istore 7, 2) := by decide +kernel
theorem dL_law_137 : decode cL_law 137 = .ok (.aload_n 1, 1) := by decide +kernel
theorem dL_law_138 : decode cL_law 138 = .ok (.iload 8, 2) := by decide +kernel
theorem dL_law_140 : decode cL_law 140 = .ok (.iload 9, 2) := by decide +kernel
theorem dL_law_142 : decode cL_law 142 = .ok (.invokevirtual 90, 3) := by decide +kernel
theorem dL_law_145 : decode cL_law 145 = .ok (.ifCond .ne 7, 3) := by decide +kernel
theorem dL_law_148 : decode cL_law 148 = .ok (.iconst 1, 1) := by decide +kernel
theorem dL_law_149 : decode cL_law 149 = .ok (.goto 4, 3) := by decide +kernel
theorem dL_law_152 : decode cL_law 152 = .ok (.iconst 0, 1) := by decide +kernel
theorem dL_law_153 : decode cL_law 153 = .ok (.istore 5, 2) := by decide +kernel
theorem dL_law_155 : decode cL_law 155 = .ok (.iinc 8 1, 3) := by decide +kernel
theorem dL_law_158 : decode cL_law 158 = .ok (.goto (-53), 3) := by decide +kernel
theorem dL_law_161 : decode cL_law 161 = .ok (.aload_n 1, 1) := by decide +kernel
theorem dL_law_162 : decode cL_law 162 = .ok (.iconst 1, 1) := by decide +kernel
theorem dL_law_163 : decode cL_law 163 = .ok (.invokevirtual 24, 3) := by decide +kernel
theorem dL_law_166 : decode cL_law 166 = .ok (.istore 8, 2) := by decide +kernel
theorem dL_law_168 : decode cL_law 168 = .ok (.iconst (-1), 1) := by decide +kernel
theorem dL_law_169 : decode cL_law 169 = .ok (.istore 9, 2) := by decide +kernel
theorem dL_law_171 : decode cL_law 171 = .ok (.iconst 0, 1) := by decide +kernel
theorem dL_law_172 : decode cL_law 172 = .ok (.istore 10, 2) := by decide +kernel
theorem dL_law_174 : decode cL_law 174 = .ok (.iload 10, 2) := by decide +kernel
theorem dL_law_176 : decode cL_law 176 = .ok (.bipush 8, 2) := by decide +kernel
theorem dL_law_178 : decode cL_law 178 = .ok (.if_icmp .ge 111, 3) := by decide +kernel
theorem dL_law_181 : decode cL_law 181 = .ok (.iload 5, 2) := by decide +kernel
theorem dL_law_183 : decode cL_law 183 = .ok (.ifCond .eq 106, 3) := by decide +kernel
theorem dL_law_186 : decode cL_law 186 = .ok (.aload_n 1, 1) := by decide +kernel
theorem dL_law_187 : decode cL_law 187 = .ok (.invokevirtual 112, 3) := by decide +kernel
theorem dL_law_190 : decode cL_law 190 = .ok (.istore 11, 2) := by decide +kernel
theorem dL_law_192 : decode cL_law 192 = .ok (.aload_n 1, 1) := by decide +kernel
theorem dL_law_193 : decode cL_law 193 = .ok (.aload_n 2, 1) := by decide +kernel
theorem dL_law_194 : decode cL_law 194 = .ok (.aload_n 3, 1) := by decide +kernel
theorem dL_law_195 : decode cL_law 195 = .ok (.aload 4, 2) := by decide +kernel
theorem dL_law_197 : decode cL_law 197 = .ok (.invokestatic 119, 3) := by decide +kernel
theorem dL_law_200 : decode cL_law 200 = .ok (.ifCond .eq 76, 3) := by decide +kernel
theorem dL_law_203 : decode cL_law 203 = .ok (.iload 7, 2) := by decide +kernel
theorem dL_law_205 : decode cL_law 205 = .ok (.ifCond .ne 13, 3) := by decide +kernel
theorem dL_law_208 : decode cL_law 208 = .ok (.iload 11, 2) := by decide +kernel
theorem dL_law_210 : decode cL_law 210 = .ok (.bipush (-105), 2) := by decide +kernel
theorem dL_law_212 : decode cL_law 212 = .ok (.if_icmp .ne 64, 3) := by decide +kernel
theorem dL_law_215 : decode cL_law 215 = .ok (.goto 17, 3) := by decide +kernel
theorem dL_law_218 : decode cL_law 218 = .ok (.iload 11, 2) := by decide +kernel
theorem dL_law_220 : decode cL_law 220 = .ok (.ifCond .lt 56, 3) := by decide +kernel
theorem dL_law_223 : decode cL_law 223 = .ok (.iload 11, 2) := by decide +kernel
theorem dL_law_225 : decode cL_law 225 = .ok (.aload 4, 2) := by decide +kernel
theorem dL_law_227 : decode cL_law 227 = .ok (.iconst 1, 1) := by decide +kernel
theorem dL_law_228 : decode cL_law 228 = .ok (.iaload, 1) := by decide +kernel
theorem dL_law_229 : decode cL_law 229 = .ok (.if_icmp .ge 47, 3) := by decide +kernel
theorem dL_law_232 : decode cL_law 232 = .ok (.iload 7, 2) := by decide +kernel
theorem dL_law_234 : decode cL_law 234 = .ok (.ifCond .eq 19, 3) := by decide +kernel
theorem dL_law_237 : decode cL_law 237 = .ok (.aload_n 1, 1) := by decide +kernel
theorem dL_law_238 : decode cL_law 238 = .ok (.invokevirtual 76, 3) := by decide +kernel
theorem dL_law_241 : decode cL_law 241 = .ok (.iload 7, 2) := by decide +kernel
theorem dL_law_243 : decode cL_law 243 = .ok (.if_icmp .ge 10, 3) := by decide +kernel
theorem dL_law_246 : decode cL_law 246 = .ok (.iload 11, 2) := by decide +kernel
theorem dL_law_248 : decode cL_law 248 = .ok (.iload 9, 2) := by decide +kernel
theorem dL_law_250 : decode cL_law 250 = .ok (.if_icmp .lt 26, 3) := by decide +kernel
theorem dL_law_253 : decode cL_law 253 = .ok (.aload_n 1, 1) := by decide +kernel
theorem dL_law_254 : decode cL_law 254 = .ok (.iconst 1, 1) := by decide +kernel
theorem dL_law_255 : decode cL_law 255 = .ok (.invokevirtual 96, 3) := by decide +kernel
theorem dL_law_258 : decode cL_law 258 = .ok (.ifCond .lt 18, 3) := by decide +kernel
theorem dL_law_261 : decode cL_law 261 = .ok (.aload_n 1, 1) := by decide +kernel
theorem dL_law_262 : decode cL_law 262 = .ok (.invokevirtual 76, 3) := by decide +kernel
theorem dL_law_265 : decode cL_law 265 = .ok (.iload 10, 2) := by decide +kernel
theorem dL_law_267 : decode cL_law 267 = .ok (.iconst 1, 1) := by decide +kernel
theorem dL_law_268 : decode cL_law 268 = .ok (.iadd, 1) := by decide +kernel
theorem dL_law_269 : decode cL_law 269 = .ok (.if_icmp .ne 7, 3) := by decide +kernel
theorem dL_law_272 : decode cL_law 272 = .ok (.iconst 1, 1) := by decide +kernel
theorem dL_law_273 : decode cL_law 273 = .ok (.goto 4, 3) := by decide +kernel
theorem dL_law_276 : decode cL_law 276 = .ok (.iconst 0, 1) := by decide +kernel
theorem dL_law_277 : decode cL_law 277 = .ok (.istore 5, 2) := by decide +kernel
theorem dL_law_279 : decode cL_law 279 = .ok (.iload 11, 2) := by decide +kernel
theorem dL_law_281 : decode cL_law 281 = .ok (.istore 9, 2) := by decide +kernel
theorem dL_law_283 : decode cL_law 283 = .ok (.iinc 10 1, 3) := by decide +kernel
theorem dL_law_286 : decode cL_law 286 = .ok (.goto (-112), 3) := by decide +kernel
theorem dL_law_289 : decode cL_law 289 = .ok (.iload 5, 2) := by decide +kernel
theorem dL_law_291 : decode cL_law 291 = .ok (.ifCond .eq 43, 3) := by decide +kernel
theorem dL_law_294 : decode cL_law 294 = .ok (.aload_n 1, 1) := by decide +kernel
theorem dL_law_295 : decode cL_law 295 = .ok (.iconst 2, 1) := by decide +kernel
theorem dL_law_296 : decode cL_law 296 = .ok (.invokevirtual 24, 3) := by decide +kernel
theorem dL_law_299 : decode cL_law 299 = .ok (.iconst 1, 1) := by decide +kernel
theorem dL_law_300 : decode cL_law 300 = .ok (.if_icmp .ne 34, 3) := by decide +kernel
theorem dL_law_303 : decode cL_law 303 = .ok (.aload_n 1, 1) := by decide +kernel
theorem dL_law_304 : decode cL_law 304 = .ok (.aload_n 2, 1) := by decide +kernel
theorem dL_law_305 : decode cL_law 305 = .ok (.aload_n 3, 1) := by decide +kernel
theorem dL_law_306 : decode cL_law 306 = .ok (.aload 4, 2) := by decide +kernel
theorem dL_law_308 : decode cL_law 308 = .ok (.invokestatic 119, 3) := by decide +kernel
theorem dL_law_311 : decode cL_law 311 = .ok (.ifCond .eq 23, 3) := by decide +kernel
theorem dL_law_314 : decode cL_law 314 = .ok (.aload_n 1, 1) := by decide +kernel
theorem dL_law_315 : decode cL_law 315 = .ok (.invokevirtual 130, 3) := by decide +kernel
theorem dL_law_318 : decode cL_law 318 = .ok (.ifCond .lt 16, 3) := by decide +kernel
theorem dL_law_321 : decode cL_law 321 = .ok (.iload 8, 2) := by decide +kernel
theorem dL_law_323 : decode cL_law 323 = .ok (.aload 4, 2) := by decide +kernel
theorem dL_law_325 : decode cL_law 325 = .ok (.iconst 3, 1) := by decide +kernel
theorem dL_law_326 : decode cL_law 326 = .ok (.iaload, 1) := by decide +kernel
theorem dL_law_327 : decode cL_law 327 = .ok (.if_icmp .ne 7, 3) := by decide +kernel
theorem dL_law_330 : decode cL_law 330 = .ok (.iconst 1, 1) := by decide +kernel
theorem dL_law_331 : decode cL_law 331 = .ok (.goto 4, 3) := by decide +kernel
theorem dL_law_334 : decode cL_law 334 = .ok (.iconst 0, 1) := by decide +kernel
theorem dL_law_335 : decode cL_law 335 = .ok (.istore 5, 2) := by decide +kernel
theorem dL_law_337 : decode cL_law 337 = .ok (.aload_n 1, 1) := by decide +kernel
theorem dL_law_338 : decode cL_law 338 = .ok (.invokevirtual 86, 3) := by decide +kernel
theorem dL_law_341 : decode cL_law 341 = .ok (.lstore 10, 2) := by decide +kernel
theorem dL_law_343 : decode cL_law 343 = .ok (.iload 5, 2) := by decide +kernel
theorem dL_law_345 : decode cL_law 345 = .ok (.ifCond .eq 65, 3) := by decide +kernel
theorem dL_law_348 : decode cL_law 348 = .ok (.aload_n 1, 1) := by decide +kernel
theorem dL_law_349 : decode cL_law 349 = .ok (.iconst 0, 1) := by decide +kernel
theorem dL_law_350 : decode cL_law 350 = .ok (.invokevirtual 73, 3) := by decide +kernel
theorem dL_law_353 : decode cL_law 353 = .ok (.bipush 8, 2) := by decide +kernel
theorem dL_law_355 : decode cL_law 355 = .ok (.if_icmp .ne 55, 3) := by decide +kernel
theorem dL_law_358 : decode cL_law 358 = .ok (.aload_n 1, 1) := by decide +kernel
theorem dL_law_359 : decode cL_law 359 = .ok (.iconst 5, 1) := by decide +kernel
theorem dL_law_360 : decode cL_law 360 = .ok (.invokevirtual 96, 3) := by decide +kernel
theorem dL_law_363 : decode cL_law 363 = .ok (.ifCond .lt 47, 3) := by decide +kernel
theorem dL_law_366 : decode cL_law 366 = .ok (.aload_n 1, 1) := by decide +kernel
theorem dL_law_367 : decode cL_law 367 = .ok (.aload_n 2, 1) := by decide +kernel
theorem dL_law_368 : decode cL_law 368 = .ok (.aload_n 3, 1) := by decide +kernel
theorem dL_law_369 : decode cL_law 369 = .ok (.aload 4, 2) := by decide +kernel
theorem dL_law_371 : decode cL_law 371 = .ok (.invokestatic 119, 3) := by decide +kernel
theorem dL_law_374 : decode cL_law 374 = .ok (.ifCond .eq 36, 3) := by decide +kernel
theorem dL_law_377 : decode cL_law 377 = .ok (.aload_n 1, 1) := by decide +kernel
theorem dL_law_378 : decode cL_law 378 = .ok (.iconst 0, 1) := by decide +kernel
theorem dL_law_379 : decode cL_law 379 = .ok (.invokevirtual 133, 3) := by decide +kernel
theorem dL_law_382 : decode cL_law 382 = .ok (.aload_n 1, 1) := by decide +kernel
theorem dL_law_383 : decode cL_law 383 = .ok (.iconst 2, 1) := by decide +kernel
theorem dL_law_384 : decode cL_law 384 = .ok (.invokevirtual 133, 3) := by decide +kernel
theorem dL_law_387 : decode cL_law 387 = .ok (.aload_n 1, 1) := by decide +kernel
theorem dL_law_388 : decode cL_law 388 = .ok (.iconst 3, 1) := by decide +kernel
theorem dL_law_389 : decode cL_law 389 = .ok (.invokevirtual 133, 3) := by decide +kernel
theorem dL_law_392 : decode cL_law 392 = .ok (.iadd, 1) := by decide +kernel
theorem dL_law_393 : decode cL_law 393 = .ok (.if_icmp .ne 17, 3) := by decide +kernel
theorem dL_law_396 : decode cL_law 396 = .ok (.aload_n 1, 1) := by decide +kernel
theorem dL_law_397 : decode cL_law 397 = .ok (.iconst 0, 1) := by decide +kernel
theorem dL_law_398 : decode cL_law 398 = .ok (.invokevirtual 105, 3) := by decide +kernel
theorem dL_law_401 : decode cL_law 401 = .ok (.bipush 8, 2) := by decide +kernel
theorem dL_law_403 : decode cL_law 403 = .ok (.if_icmp .ne 7, 3) := by decide +kernel
theorem dL_law_406 : decode cL_law 406 = .ok (.iconst 1, 1) := by decide +kernel
theorem dL_law_407 : decode cL_law 407 = .ok (.goto 4, 3) := by decide +kernel
theorem dL_law_410 : decode cL_law 410 = .ok (.iconst 0, 1) := by decide +kernel
theorem dL_law_411 : decode cL_law 411 = .ok (.istore 5, 2) := by decide +kernel
theorem dL_law_413 : decode cL_law 413 = .ok (.iload 5, 2) := by decide +kernel
theorem dL_law_415 : decode cL_law 415 = .ok (.ifCond .eq 17, 3) := by decide +kernel
theorem dL_law_418 : decode cL_law 418 = .ok (.aload_n 1, 1) := by decide +kernel
theorem dL_law_419 : decode cL_law 419 = .ok (.invokevirtual 86, 3) := by decide +kernel
theorem dL_law_422 : decode cL_law 422 = .ok (.lload 10, 2) := by decide +kernel
theorem dL_law_424 : decode cL_law 424 = .ok (.lcmp, 1) := by decide +kernel
theorem dL_law_425 : decode cL_law 425 = .ok (.ifCond .ne 7, 3) := by decide +kernel
theorem dL_law_428 : decode cL_law 428 = .ok (.iconst 1, 1) := by decide +kernel
theorem dL_law_429 : decode cL_law 429 = .ok (.goto 4, 3) := by decide +kernel
theorem dL_law_432 : decode cL_law 432 = .ok (.iconst 0, 1) := by decide +kernel
theorem dL_law_433 : decode cL_law 433 = .ok (.ireturn, 1) := by decide +kernel
abbrev vwCl : List vw_C := [(RX0, TX0, 3), (RX1, TX1, 6), (RX2, TX2, 10), (RX3, TX3, 5), (RX4, TX4, 12), (RX5, TX5, 6)]

