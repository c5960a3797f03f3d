theorem dX6_leastSupply_55 : decode cX6_leastSupply 55 = .ok (.invokevirtual 104, 3) := by decide +kernel
theorem dX6_leastSupply_58 : decode cX6_leastSupply 58 = .ok (.aload_n 0, 1) := by decide +kernel
theorem dX6_leastSupply_59 : decode cX6_leastSupply 59 = .ok (.getfield 29, 3) := by decide +kernel
theorem dX6_leastSupply_62 : decode cX6_leastSupply 62 = .ok (.iload_n 1, 1) := by decide +kernel
theorem dX6_leastSupply_63 : decode cX6_leastSupply 63 = .ok (.iaload, 1) := by decide +kernel
theorem dX6_leastSupply_64 : decode cX6_leastSupply 64 = .ok (.aload_n 0, 1) := by decide +kernel
theorem dX6_leastSupply_65 : decode cX6_leastSupply 65 = .ok (.getfield 26, 3) := by decide +kernel
theorem dX6_leastSupply_68 : decode cX6_leastSupply 68 = .ok (.iload_n 1, 1) := by decide +kernel
theorem dX6_leastSupply_69 : decode cX6_leastSupply 69 = .ok (.iaload, 1) := by decide +kernel
theorem dX6_leastSupply_70 : decode cX6_leastSupply 70 = .ok (.if_icmp .lt 8, 3) := by decide +kernel
theorem dX6_leastSupply_73 : decode cX6_leastSupply 73 = .ok (.iload 5, 2) := by decide +kernel
theorem dX6_leastSupply_75 : decode cX6_leastSupply 75 = .ok (.goto 5, 3) := by decide +kernel
theorem dX6_leastSupply_78 : decode cX6_leastSupply 78 = .ok (.iload 4, 2) := by decide +kernel
theorem dX6_leastSupply_80 : decode cX6_leastSupply 80 = .ok (.istore 4, 2) := by decide +kernel
theorem dX6_leastSupply_82 : decode cX6_leastSupply 82 = .ok (.iinc 5 1, 3) := by decide +kernel
theorem dX6_leastSupply_85 : decode cX6_leastSupply 85 = .ok (.goto (-52), 3) := by decide +kernel
theorem dX6_leastSupply_88 : decode cX6_leastSupply 88 = .ok (.aload_n 0, 1) := by decide +kernel
theorem dX6_leastSupply_89 : decode cX6_leastSupply 89 = .ok (.getfield 7, 3) := by decide +kernel
theorem dX6_leastSupply_92 : decode cX6_leastSupply 92 = .ok (.iload_n 2, 1) := by decide +kernel
theorem dX6_leastSupply_93 : decode cX6_leastSupply 93 = .ok (.iload_n 3, 1) := by decide +kernel
theorem dX6_leastSupply_94 : decode cX6_leastSupply 94 = .ok (.iastore, 1) := by decide +kernel
theorem dX6_leastSupply_95 : decode cX6_leastSupply 95 = .ok (.iload 4, 2) := by decide +kernel
theorem dX6_leastSupply_97 : decode cX6_leastSupply 97 = .ok (.ireturn, 1) := by decide +kernel
theorem dX6_all_0 : decode cX6_all 0 = .ok (.iconst 0, 1) := by decide +kernel
theorem dX6_all_1 : decode cX6_all 1 = .ok (.istore_n 1, 1) := by decide +kernel
theorem dX6_all_2 : decode cX6_all 2 = .ok (.iconst 0, 1) := by decide +kernel
theorem dX6_all_3 : decode cX6_all 3 = .ok (.istore_n 2, 1) := by decide +kernel
theorem dX6_all_4 : decode cX6_all 4 = .ok (.iload_n 2, 1) := by decide +kernel
theorem dX6_all_5 : decode cX6_all 5 = .ok (.aload_n 0, 1) := by decide +kernel
theorem dX6_all_6 : decode cX6_all 6 = .ok (.getfield 7, 3) := by decide +kernel
theorem dX6_all_9 : decode cX6_all 9 = .ok (.iconst 2, 1) := by decide +kernel
theorem dX6_all_10 : decode cX6_all 10 = .ok (.iaload, 1) := by decide +kernel
theorem dX6_all_11 : decode cX6_all 11 = .ok (.if_icmp .ge 18, 3) := by decide +kernel
theorem dX6_all_14 : decode cX6_all 14 = .ok (.iload_n 1, 1) := by decide +kernel
theorem dX6_all_15 : decode cX6_all 15 = .ok (.aload_n 0, 1) := by decide +kernel
theorem dX6_all_16 : decode cX6_all 16 = .ok (.getfield 29, 3) := by decide +kernel
theorem dX6_all_19 : decode cX6_all 19 = .ok (.iload_n 2, 1) := by decide +kernel
theorem dX6_all_20 : decode cX6_all 20 = .ok (.iaload, 1) := by decide +kernel
theorem dX6_all_21 : decode cX6_all 21 = .ok (.iadd, 1) := by decide +kernel
theorem dX6_all_22 : decode cX6_all 22 = .ok (.istore_n 1, 1) := by decide +kernel
theorem dX6_all_23 : decode cX6_all 23 = .ok (.iinc 2 1, 3) := by decide +kernel
theorem dX6_all_26 : decode cX6_all 26 = .ok (.goto (-22), 3) := by decide +kernel
theorem dX6_all_29 : decode cX6_all 29 = .ok (.iload_n 1, 1) := by decide +kernel
theorem dX6_all_30 : decode cX6_all 30 = .ok (.ireturn, 1) := by decide +kernel
set_option maxRecDepth 20000 in
theorem ggX6_usefulGate_X6_isDitch : GoodIn wsX6_usefulGate wsX6_isDitch := goodIn_r _ [6, 1, 7, 8, 5, 9, 61, 62, 63, 64, 65, 66, 67, 68, 69, 70, 71, 72] (by decide +kernel) (by decide +kernel)
set_option maxRecDepth 20000 in
theorem gX6_usefulGate_X6_isDitch : GoodIn wsX6_usefulGate (wsV RX6 45 RX6 yX6_isDitch wsX6_isDitch) := goodIn_app (goodIn_of _ (by decide +kernel)) ggX6_usefulGate_X6_isDitch
set_option maxRecDepth 20000 in
theorem ggX6_usefulGate_X6_distributes : GoodIn wsX6_usefulGate wsX6_distributes := goodIn_r _ [13, 1, 14, 15, 16, 17, 5, 18, 19, 20, 21, 22, 23, 24, 25, 26, 27, 28, 29, 30, 31, 7, 8, 9, 32, 33, 34, 35, 36, 37, 38, 39, 40, 41, 42, 43, 44, 45, 46, 47, 48, 49, 50, 51, 52, 53, 54, 55, 56, 61, 62, 63, 64, 65, 66, 67, 68, 69, 70, 71, 72] (by decide +kernel) (by decide +kernel)
set_option maxRecDepth 20000 in
theorem gX6_usefulGate_X6_distributes : GoodIn wsX6_usefulGate (wsV RX6 104 RX6 yX6_distributes wsX6_distributes) := goodIn_app (goodIn_of _ (by decide +kernel)) ggX6_usefulGate_X6_distributes
set_option maxRecDepth 20000 in
theorem ggX6_usefulGate_X6_all : GoodIn wsX6_usefulGate wsX6_all := goodIn_r _ [60, 1, 14, 61, 62, 63, 64, 65, 66, 67, 68, 69, 70, 71, 72] (by decide +kernel) (by decide +kernel)
set_option maxRecDepth 20000 in
theorem gX6_usefulGate_X6_all : GoodIn wsX6_usefulGate (wsV RX6 107 RX6 yX6_all wsX6_all) := goodIn_app (goodIn_of _ (by decide +kernel)) ggX6_usefulGate_X6_all
theorem dX6_usefulGate_0 : decode cX6_usefulGate 0 = .ok (.aload_n 0, 1) := by decide +kernel
theorem dX6_usefulGate_1 : decode cX6_usefulGate 1 = .ok (.iload_n 1, 1) := by decide +kernel
theorem dX6_usefulGate_2 : decode cX6_usefulGate 2 = .ok (.invokevirtual 45, 3) := by decide +kernel
theorem dX6_usefulGate_5 : decode cX6_usefulGate 5 = .ok (.ifCond .ne 6, 3) := by decide +kernel
theorem dX6_usefulGate_8 : decode cX6_usefulGate 8 = .ok (.bipush (-101), 2) := by decide +kernel
theorem dX6_usefulGate_10 : decode cX6_usefulGate 10 = .ok (.ireturn, 1) := by decide +kernel
theorem dX6_usefulGate_11 : decode cX6_usefulGate 11 = .ok (.aload_n 0, 1) := by decide +kernel
theorem dX6_usefulGate_12 : decode cX6_usefulGate 12 = .ok (.getfield 7, 3) := by decide +kernel
theorem dX6_usefulGate_15 : decode cX6_usefulGate 15 = .ok (.bipush 50, 2) := by decide +kernel
theorem dX6_usefulGate_17 : decode cX6_usefulGate 17 = .ok (.iload_n 1, 1) := by decide +kernel
theorem dX6_usefulGate_18 : decode cX6_usefulGate 18 = .ok (.iadd, 1) := by decide +kernel
theorem dX6_usefulGate_19 : decode cX6_usefulGate 19 = .ok (.iaload, 1) := by decide +kernel
theorem dX6_usefulGate_20 : decode cX6_usefulGate 20 = .ok (.istore_n 2, 1) := by decide +kernel
theorem dX6_usefulGate_21 : decode cX6_usefulGate 21 = .ok (.aload_n 0, 1) := by decide +kernel
theorem dX6_usefulGate_22 : decode cX6_usefulGate 22 = .ok (.getfield 7, 3) := by decide +kernel
theorem dX6_usefulGate_25 : decode cX6_usefulGate 25 = .ok (.bipush 50, 2) := by decide +kernel
theorem dX6_usefulGate_27 : decode cX6_usefulGate 27 = .ok (.iload_n 1, 1) := by decide +kernel
theorem dX6_usefulGate_28 : decode cX6_usefulGate 28 = .ok (.iadd, 1) := by decide +kernel
theorem dX6_usefulGate_29 : decode cX6_usefulGate 29 = .ok (.sipush 200, 3) := by decide +kernel
theorem dX6_usefulGate_32 : decode cX6_usefulGate 32 = .ok (.iastore, 1) := by decide +kernel
theorem dX6_usefulGate_33 : decode cX6_usefulGate 33 = .ok (.aload_n 0, 1) := by decide +kernel
theorem dX6_usefulGate_34 : decode cX6_usefulGate 34 = .ok (.invokevirtual 104, 3) := by decide +kernel
theorem dX6_usefulGate_37 : decode cX6_usefulGate 37 = .ok (.aload_n 0, 1) := by decide +kernel
theorem dX6_usefulGate_38 : decode cX6_usefulGate 38 = .ok (.invokevirtual 107, 3) := by decide +kernel
theorem dX6_usefulGate_41 : decode cX6_usefulGate 41 = .ok (.istore_n 3, 1) := by decide +kernel
theorem dX6_usefulGate_42 : decode cX6_usefulGate 42 = .ok (.iconst 0, 1) := by decide +kernel
theorem dX6_usefulGate_43 : decode cX6_usefulGate 43 = .ok (.istore 4, 2) := by decide +kernel
theorem dX6_usefulGate_45 : decode cX6_usefulGate 45 = .ok (.iconst 0, 1) := by decide +kernel
theorem dX6_usefulGate_46 : decode cX6_usefulGate 46 = .ok (.istore 5, 2) := by decide +kernel
theorem dX6_usefulGate_48 : decode cX6_usefulGate 48 = .ok (.iload 5, 2) := by decide +kernel
theorem dX6_usefulGate_50 : decode cX6_usefulGate 50 = .ok (.ifCond .ne 39, 3) := by decide +kernel
theorem dX6_usefulGate_53 : decode cX6_usefulGate 53 = .ok (.iinc 4 1, 3) := by decide +kernel
theorem dX6_usefulGate_56 : decode cX6_usefulGate 56 = .ok (.aload_n 0, 1) := by decide +kernel
theorem dX6_usefulGate_57 : decode cX6_usefulGate 57 = .ok (.getfield 7, 3) := by decide +kernel
theorem dX6_usefulGate_60 : decode cX6_usefulGate 60 = .ok (.bipush 50, 2) := by decide +kernel
theorem dX6_usefulGate_62 : decode cX6_usefulGate 62 = .ok (.iload_n 1, 1) := by decide +kernel
theorem dX6_usefulGate_63 : decode cX6_usefulGate 63 = .ok (.iadd, 1) := by decide +kernel
theorem dX6_usefulGate_64 : decode cX6_usefulGate 64 = .ok (.iload 4, 2) := by decide +kernel
theorem dX6_usefulGate_66 : decode cX6_usefulGate 66 = .ok (.iastore, 1) := by decide +kernel
theorem dX6_usefulGate_67 : decode cX6_usefulGate 67 = .ok (.aload_n 0, 1) := by decide +kernel
theorem dX6_usefulGate_68 : decode cX6_usefulGate 68 = .ok (.invokevirtual 104, 3) := by decide +kernel
theorem dX6_usefulGate_71 : decode cX6_usefulGate 71 = .ok (.aload_n 0, 1) := by decide +kernel
theorem dX6_usefulGate_72 : decode cX6_usefulGate 72 = .ok (.invokevirtual 107, 3) := by decide +kernel
theorem dX6_usefulGate_75 : decode cX6_usefulGate 75 = .ok (.iload_n 3, 1) := by decide +kernel
theorem dX6_usefulGate_76 : decode cX6_usefulGate 76 = .ok (.if_icmp .ne 7, 3) := by decide +kernel
theorem dX6_usefulGate_79 : decode cX6_usefulGate 79 = .ok (.iconst 1, 1) := by decide +kernel
theorem dX6_usefulGate_80 : decode cX6_usefulGate 80 = .ok (.goto 4, 3) := by decide +kernel
theorem dX6_usefulGate_83 : decode cX6_usefulGate 83 = .ok (.iconst 0, 1) := by decide +kernel
theorem dX6_usefulGate_84 : decode cX6_usefulGate 84 = .ok (.istore 5, 2) := by decide +kernel
theorem dX6_usefulGate_86 : decode cX6_usefulGate 86 = .ok (.goto (-38), 3) := by decide +kernel
theorem dX6_usefulGate_89 : decode cX6_usefulGate 89 = .ok (.aload_n 0, 1) := by decide +kernel
theorem dX6_usefulGate_90 : decode cX6_usefulGate 90 = .ok (.getfield 7, 3) := by decide +kernel
theorem dX6_usefulGate_93 : decode cX6_usefulGate 93 = .ok (.bipush 50, 2) := by decide +kernel
theorem dX6_usefulGate_95 : decode cX6_usefulGate 95 = .ok (.iload_n 1, 1) := by decide +kernel
theorem dX6_usefulGate_96 : decode cX6_usefulGate 96 = .ok (.iadd, 1) := by decide +kernel
theorem dX6_usefulGate_97 : decode cX6_usefulGate 97 = .ok (.iload_n 2, 1) := by decide +kernel
theorem dX6_usefulGate_98 : decode cX6_usefulGate 98 = .ok (.iastore, 1) := by decide +kernel
theorem dX6_usefulGate_99 : decode cX6_usefulGate 99 = .ok (.iload 4, 2) := by decide +kernel
theorem dX6_usefulGate_101 : decode cX6_usefulGate 101 = .ok (.ireturn, 1) := by decide +kernel
set_option maxRecDepth 20000 in
theorem ggX6_passes_X6_distributes : GoodIn wsX6_passes wsX6_distributes := goodIn_r _ [9, 1, 4, 10, 11, 12, 8, 13, 14, 15, 16, 17, 18, 19, 20, 21, 22, 23, 24, 25, 26, 27, 28, 29, 30, 31, 32, 33, 34, 35, 36, 37, 38, 39, 40, 3, 2, 41, 42, 43, 44, 45, 46, 47, 48, 49, 50, 51, 52, 53, 54, 55, 56, 57, 58, 59, 60, 61, 62, 63, 64] (by decide +kernel) (by decide +kernel)
set_option maxRecDepth 20000 in
theorem gX6_passes_X6_distributes : GoodIn wsX6_passes (wsV RX6 104 RX6 yX6_distributes wsX6_distributes) := goodIn_app (goodIn_of _ (by decide +kernel)) ggX6_passes_X6_distributes
set_option maxRecDepth 20000 in
theorem ggX6_passes_X6_hour : GoodIn wsX6_passes wsX6_hour := goodIn_r _ [26, 1, 53, 54, 55, 56, 57, 58, 59, 60, 61, 62, 63, 64] (by decide +kernel) (by decide +kernel)
set_option maxRecDepth 20000 in
theorem gX6_passes_X6_hour : GoodIn wsX6_passes (wsV RX6 80 RX6 yX6_hour wsX6_hour) := goodIn_app (goodIn_of _ (by decide +kernel)) ggX6_passes_X6_hour
set_option maxRecDepth 20000 in
theorem ggX6_passes_X6_need : GoodIn wsX6_passes wsX6_need := goodIn_r _ [22, 1, 23, 24, 25, 8, 26, 27, 28, 29, 53, 54, 55, 56, 57, 58, 59, 60, 61, 62, 63, 64] (by decide +kernel) (by decide +kernel)
set_option maxRecDepth 20000 in
theorem gX6_passes_X6_need : GoodIn wsX6_passes (wsV RX6 87 RX6 yX6_need wsX6_need) := goodIn_app (goodIn_of _ (by decide +kernel)) ggX6_passes_X6_need
set_option maxRecDepth 20000 in
theorem ggX6_passes_X6_least : GoodIn wsX6_passes wsX6_least := goodIn_r _ [32] (by decide +kernel) (by decide +kernel)
set_option maxRecDepth 20000 in
theorem gX6_passes_X6_least : GoodIn wsX6_passes (va_wsS RX6 67 yX6_least wsX6_least) := goodIn_app (goodIn_of _ (by decide +kernel)) ggX6_passes_X6_least
theorem dX6_passes_0 : decode cX6_passes 0 = .ok (.aload_n 0, 1) := by decide +kernel
theorem dX6_passes_1 : decode cX6_passes 1 = .ok (.invokevirtual 104, 3) := by decide +kernel
theorem dX6_passes_4 : decode cX6_passes 4 = .ok (.aload_n 0, 1) := by decide +kernel
theorem dX6_passes_5 : decode cX6_passes 5 = .ok (.getfield 7, 3) := by decide +kernel
theorem dX6_passes_8 : decode cX6_passes 8 = .ok (.bipush 12, 2) := by decide +kernel
theorem dX6_passes_10 : decode cX6_passes 10 = .ok (.aload_n 0, 1) := by decide +kernel
theorem dX6_passes_11 : decode cX6_passes 11 = .ok (.invokevirtual 80, 3) := by decide +kernel
theorem dX6_passes_14 : decode cX6_passes 14 = .ok (.iadd, 1) := by decide +kernel
theorem dX6_passes_15 : decode cX6_passes 15 = .ok (.iaload, 1) := by decide +kernel
theorem dX6_passes_16 : decode cX6_passes 16 = .ok (.istore_n 1, 1) := by decide +kernel
theorem dX6_passes_17 : decode cX6_passes 17 = .ok (.aload_n 0, 1) := by decide +kernel
theorem dX6_passes_18 : decode cX6_passes 18 = .ok (.getfield 7, 3) := by decide +kernel
theorem dX6_passes_21 : decode cX6_passes 21 = .ok (.iconst 5, 1) := by decide +kernel
theorem dX6_passes_22 : decode cX6_passes 22 = .ok (.dup2, 1) := by decide +kernel
theorem dX6_passes_23 : decode cX6_passes 23 = .ok (.iaload, 1) := by decide +kernel
theorem dX6_passes_24 : decode cX6_passes 24 = .ok (.aload_n 0, 1) := by decide +kernel
theorem dX6_passes_25 : decode cX6_passes 25 = .ok (.getfield 32, 3) := by decide +kernel
theorem dX6_passes_28 : decode cX6_passes 28 = .ok (.iconst 0, 1) := by decide +kernel
theorem dX6_passes_29 : decode cX6_passes 29 = .ok (.iaload, 1) := by decide +kernel
theorem dX6_passes_30 : decode cX6_passes 30 = .ok (.iadd, 1) := by decide +kernel
theorem dX6_passes_31 : decode cX6_passes 31 = .ok (.iastore, 1) := by decide +kernel
theorem dX6_passes_32 : decode cX6_passes 32 = .ok (.aload_n 0, 1) := by decide +kernel
theorem dX6_passes_33 : decode cX6_passes 33 = .ok (.getfield 7, 3) := by decide +kernel
theorem dX6_passes_36 : decode cX6_passes 36 = .ok (.bipush 6, 2) := by decide +kernel
theorem dX6_passes_38 : decode cX6_passes 38 = .ok (.dup2, 1) := by decide +kernel
theorem dX6_passes_39 : decode cX6_passes 39 = .ok (.iaload, 1) := by decide +kernel
theorem dX6_passes_40 : decode cX6_passes 40 = .ok (.iload_n 1, 1) := by decide +kernel
theorem dX6_passes_41 : decode cX6_passes 41 = .ok (.aload_n 0, 1) := by decide +kernel
theorem dX6_passes_42 : decode cX6_passes 42 = .ok (.getfield 32, 3) := by decide +kernel
theorem dX6_passes_45 : decode cX6_passes 45 = .ok (.iconst 0, 1) := by decide +kernel
theorem dX6_passes_46 : decode cX6_passes 46 = .ok (.iaload, 1) := by decide +kernel
theorem dX6_passes_47 : decode cX6_passes 47 = .ok (.isub, 1) := by decide +kernel
theorem dX6_passes_48 : decode cX6_passes 48 = .ok (.iadd, 1) := by decide +kernel
theorem dX6_passes_49 : decode cX6_passes 49 = .ok (.iastore, 1) := by decide +kernel
theorem dX6_passes_50 : decode cX6_passes 50 = .ok (.iconst 0, 1) := by decide +kernel
theorem dX6_passes_51 : decode cX6_passes 51 = .ok (.istore_n 2, 1) := by decide +kernel
theorem dX6_passes_52 : decode cX6_passes 52 = .ok (.iload_n 2, 1) := by decide +kernel
theorem dX6_passes_53 : decode cX6_passes 53 = .ok (.aload_n 0, 1) := by decide +kernel
theorem dX6_passes_54 : decode cX6_passes 54 = .ok (.getfield 7, 3) := by decide +kernel
theorem dX6_passes_57 : decode cX6_passes 57 = .ok (.iconst 1, 1) := by decide +kernel
theorem dX6_passes_58 : decode cX6_passes 58 = .ok (.iaload, 1) := by decide +kernel
theorem dX6_passes_59 : decode cX6_passes 59 = .ok (.if_icmp .ge 32, 3) := by decide +kernel
theorem dX6_passes_62 : decode cX6_passes 62 = .ok (.aload_n 0, 1) := by decide +kernel
theorem dX6_passes_63 : decode cX6_passes 63 = .ok (.getfield 7, 3) := by decide +kernel
theorem dX6_passes_66 : decode cX6_passes 66 = .ok (.bipush 7, 2) := by decide +kernel
theorem dX6_passes_68 : decode cX6_passes 68 = .ok (.dup2, 1) := by decide +kernel
theorem dX6_passes_69 : decode cX6_passes 69 = .ok (.iaload, 1) := by decide +kernel
theorem dX6_passes_70 : decode cX6_passes 70 = .ok (.aload_n 0, 1) := by decide +kernel
theorem dX6_passes_71 : decode cX6_passes 71 = .ok (.getfield 32, 3) := by decide +kernel
theorem dX6_passes_74 : decode cX6_passes 74 = .ok (.iload_n 2, 1) := by decide +kernel
theorem dX6_passes_75 : decode cX6_passes 75 = .ok (.iaload, 1) := by decide +kernel
theorem dX6_passes_76 : decode cX6_passes 76 = .ok (.aload_n 0, 1) := by decide +kernel
theorem dX6_passes_77 : decode cX6_passes 77 = .ok (.getfield 35, 3) := by decide +kernel
theorem dX6_passes_80 : decode cX6_passes 80 = .ok (.iload_n 2, 1) := by decide +kernel
theorem dX6_passes_81 : decode cX6_passes 81 = .ok (.iaload, 1) := by decide +kernel
theorem dX6_passes_82 : decode cX6_passes 82 = .ok (.isub, 1) := by decide +kernel
theorem dX6_passes_83 : decode cX6_passes 83 = .ok (.iadd, 1) := by decide +kernel
theorem dX6_passes_84 : decode cX6_passes 84 = .ok (.iastore, 1) := by decide +kernel
theorem dX6_passes_85 : decode cX6_passes 85 = .ok (.iinc 2 1, 3) := by decide +kernel
theorem dX6_passes_88 : decode cX6_passes 88 = .ok (.goto (-36), 3) := by decide +kernel
theorem dX6_passes_91 : decode cX6_passes 91 = .ok (.iconst 0, 1) := by decide +kernel
theorem dX6_passes_92 : decode cX6_passes 92 = .ok (.istore_n 2, 1) := by decide +kernel
theorem dX6_passes_93 : decode cX6_passes 93 = .ok (.iload_n 2, 1) := by decide +kernel
theorem dX6_passes_94 : decode cX6_passes 94 = .ok (.aload_n 0, 1) := by decide +kernel
theorem dX6_passes_95 : decode cX6_passes 95 = .ok (.getfield 7, 3) := by decide +kernel
theorem dX6_passes_98 : decode cX6_passes 98 = .ok (.iconst 2, 1) := by decide +kernel
theorem dX6_passes_99 : decode cX6_passes 99 = .ok (.iaload, 1) := by decide +kernel
theorem dX6_passes_100 : decode cX6_passes 100 = .ok (.if_icmp .ge 162, 3) := by decide +kernel
theorem dX6_passes_103 : decode cX6_passes 103 = .ok (.aload_n 0, 1) := by decide +kernel
theorem dX6_passes_104 : decode cX6_passes 104 = .ok (.getfield 29, 3) := by decide +kernel
theorem dX6_passes_107 : decode cX6_passes 107 = .ok (.iload_n 2, 1) := by decide +kernel
theorem dX6_passes_108 : decode cX6_passes 108 = .ok (.iaload, 1) := by decide +kernel
theorem dX6_passes_109 : decode cX6_passes 109 = .ok (.aload_n 0, 1) := by decide +kernel
theorem dX6_passes_110 : decode cX6_passes 110 = .ok (.getfield 7, 3) := by decide +kernel
theorem dX6_passes_113 : decode cX6_passes 113 = .ok (.sipush 154, 3) := by decide +kernel
theorem dX6_passes_116 : decode cX6_passes 116 = .ok (.iload_n 2, 1) := by decide +kernel
theorem dX6_passes_117 : decode cX6_passes 117 = .ok (.iadd, 1) := by decide +kernel
theorem dX6_passes_118 : decode cX6_passes 118 = .ok (.iaload, 1) := by decide +kernel
theorem dX6_passes_119 : decode cX6_passes 119 = .ok (.iadd, 1) := by decide +kernel
theorem dX6_passes_120 : decode cX6_passes 120 = .ok (.istore_n 3, 1) := by decide +kernel
theorem dX6_passes_121 : decode cX6_passes 121 = .ok (.aload_n 0, 1) := by decide +kernel
theorem dX6_passes_122 : decode cX6_passes 122 = .ok (.iload_n 2, 1) := by decide +kernel
theorem dX6_passes_123 : decode cX6_passes 123 = .ok (.invokevirtual 87, 3) := by decide +kernel
theorem dX6_passes_126 : decode cX6_passes 126 = .ok (.istore 4, 2) := by decide +kernel
theorem dX6_passes_128 : decode cX6_passes 128 = .ok (.iload 4, 2) := by decide +kernel
theorem dX6_passes_130 : decode cX6_passes 130 = .ok (.iload_n 3, 1) := by decide +kernel
theorem dX6_passes_131 : decode cX6_passes 131 = .ok (.invokestatic 67, 3) := by decide +kernel
theorem dX6_passes_134 : decode cX6_passes 134 = .ok (.istore 5, 2) := by decide +kernel
theorem dX6_passes_136 : decode cX6_passes 136 = .ok (.aload_n 0, 1) := by decide +kernel
theorem dX6_passes_137 : decode cX6_passes 137 = .ok (.getfield 7, 3) := by decide +kernel
theorem dX6_passes_140 : decode cX6_passes 140 = .ok (.sipush 166, 3) := by decide +kernel
theorem dX6_passes_143 : decode cX6_passes 143 = .ok (.iload_n 2, 1) := by decide +kernel
theorem dX6_passes_144 : decode cX6_passes 144 = .ok (.iadd, 1) := by decide +kernel
theorem dX6_passes_145 : decode cX6_passes 145 = .ok (.iaload, 1) := by decide +kernel
theorem dX6_passes_146 : decode cX6_passes 146 = .ok (.iload_n 3, 1) := by decide +kernel
theorem dX6_passes_147 : decode cX6_passes 147 = .ok (.iload 5, 2) := by decide +kernel
theorem dX6_passes_149 : decode cX6_passes 149 = .ok (.isub, 1) := by decide +kernel
theorem dX6_passes_150 : decode cX6_passes 150 = .ok (.invokestatic 67, 3) := by decide +kernel
theorem dX6_passes_153 : decode cX6_passes 153 = .ok (.istore 6, 2) := by decide +kernel
theorem dX6_passes_155 : decode cX6_passes 155 = .ok (.aload_n 0, 1) := by decide +kernel
theorem dX6_passes_156 : decode cX6_passes 156 = .ok (.getfield 7, 3) := by decide +kernel
theorem dX6_passes_159 : decode cX6_passes 159 = .ok (.sipush 154, 3) := by decide +kernel
theorem dX6_passes_162 : decode cX6_passes 162 = .ok (.iload_n 2, 1) := by decide +kernel
theorem dX6_passes_163 : decode cX6_passes 163 = .ok (.iadd, 1) := by decide +kernel
theorem dX6_passes_164 : decode cX6_passes 164 = .ok (.iload_n 3, 1) := by decide +kernel
theorem dX6_passes_165 : decode cX6_passes 165 = .ok (.iload 5, 2) := by decide +kernel
theorem dX6_passes_167 : decode cX6_passes 167 = .ok (.isub, 1) := by decide +kernel
theorem dX6_passes_168 : decode cX6_passes 168 = .ok (.iload 6, 2) := by decide +kernel
theorem dX6_passes_170 : decode cX6_passes 170 = .ok (.isub, 1) := by decide +kernel
theorem dX6_passes_171 : decode cX6_passes 171 = .ok (.iastore, 1) := by decide +kernel
theorem dX6_passes_172 : decode cX6_passes 172 = .ok (.aload_n 0, 1) := by decide +kernel
theorem dX6_passes_173 : decode cX6_passes 173 = .ok (.getfield 7, 3) := by decide +kernel
theorem dX6_passes_176 : decode cX6_passes 176 = .ok (.sipush 190, 3) := by decide +kernel
theorem dX6_passes_179 : decode cX6_passes 179 = .ok (.iload_n 2, 1) := by decide +kernel
theorem dX6_passes_180 : decode cX6_passes 180 = .ok (.iadd, 1) := by decide +kernel
theorem dX6_passes_181 : decode cX6_passes 181 = .ok (.dup2, 1) := by decide +kernel
theorem dX6_passes_182 : decode cX6_passes 182 = .ok (.iaload, 1) := by decide +kernel
theorem dX6_passes_183 : decode cX6_passes 183 = .ok (.iload 4, 2) := by decide +kernel
theorem dX6_passes_185 : decode cX6_passes 185 = .ok (.iload 5, 2) := by decide +kernel
theorem dX6_passes_187 : decode cX6_passes 187 = .ok (.isub, 1) := by decide +kernel
theorem dX6_passes_188 : decode cX6_passes 188 = .ok (.iadd, 1) := by decide +kernel
theorem dX6_passes_189 : decode cX6_passes 189 = .ok (.iastore, 1) := by decide +kernel
theorem dX6_passes_190 : decode cX6_passes 190 = .ok (.aload_n 0, 1) := by decide +kernel
theorem dX6_passes_191 : decode cX6_passes 191 = .ok (.getfield 7, 3) := by decide +kernel
theorem dX6_passes_194 : decode cX6_passes 194 = .ok (.bipush 8, 2) := by decide +kernel
theorem dX6_passes_196 : decode cX6_passes 196 = .ok (.dup2, 1) := by decide +kernel
theorem dX6_passes_197 : decode cX6_passes 197 = .ok (.iaload, 1) := by decide +kernel
theorem dX6_passes_198 : decode cX6_passes 198 = .ok (.aload_n 0, 1) := by decide +kernel
theorem dX6_passes_199 : decode cX6_passes 199 = .ok (.getfield 29, 3) := by decide +kernel
theorem dX6_passes_202 : decode cX6_passes 202 = .ok (.iload_n 2, 1) := by decide +kernel
theorem dX6_passes_203 : decode cX6_passes 203 = .ok (.iaload, 1) := by decide +kernel
theorem dX6_passes_204 : decode cX6_passes 204 = .ok (.iadd, 1) := by decide +kernel
theorem dX6_passes_205 : decode cX6_passes 205 = .ok (.iastore, 1) := by decide +kernel
theorem dX6_passes_206 : decode cX6_passes 206 = .ok (.aload_n 0, 1) := by decide +kernel
theorem dX6_passes_207 : decode cX6_passes 207 = .ok (.getfield 7, 3) := by decide +kernel
theorem dX6_passes_210 : decode cX6_passes 210 = .ok (.bipush 9, 2) := by decide +kernel
theorem dX6_passes_212 : decode cX6_passes 212 = .ok (.dup2, 1) := by decide +kernel
theorem dX6_passes_213 : decode cX6_passes 213 = .ok (.iaload, 1) := by decide +kernel
theorem dX6_passes_214 : decode cX6_passes 214 = .ok (.iload 5, 2) := by decide +kernel
theorem dX6_passes_216 : decode cX6_passes 216 = .ok (.iadd, 1) := by decide +kernel
theorem dX6_passes_217 : decode cX6_passes 217 = .ok (.iastore, 1) := by decide +kernel
theorem dX6_passes_218 : decode cX6_passes 218 = .ok (.aload_n 0, 1) := by decide +kernel
theorem dX6_passes_219 : decode cX6_passes 219 = .ok (.getfield 7, 3) := by decide +kernel
theorem dX6_passes_222 : decode cX6_passes 222 = .ok (.bipush 10, 2) := by decide +kernel
theorem dX6_passes_224 : decode cX6_passes 224 = .ok (.dup2, 1) := by decide +kernel
theorem dX6_passes_225 : decode cX6_passes 225 = .ok (.iaload, 1) := by decide +kernel
theorem dX6_passes_226 : decode cX6_passes 226 = .ok (.iload 6, 2) := by decide +kernel
theorem dX6_passes_228 : decode cX6_passes 228 = .ok (.iadd, 1) := by decide +kernel
theorem dX6_passes_229 : decode cX6_passes 229 = .ok (.iastore, 1) := by decide +kernel
theorem dX6_passes_230 : decode cX6_passes 230 = .ok (.aload_n 0, 1) := by decide +kernel
theorem dX6_passes_231 : decode cX6_passes 231 = .ok (.getfield 7, 3) := by decide +kernel
theorem dX6_passes_234 : decode cX6_passes 234 = .ok (.bipush 11, 2) := by decide +kernel
theorem dX6_passes_236 : decode cX6_passes 236 = .ok (.dup2, 1) := by decide +kernel
theorem dX6_passes_237 : decode cX6_passes 237 = .ok (.iaload, 1) := by decide +kernel
theorem dX6_passes_238 : decode cX6_passes 238 = .ok (.iload 4, 2) := by decide +kernel
theorem dX6_passes_240 : decode cX6_passes 240 = .ok (.iload 5, 2) := by decide +kernel
theorem dX6_passes_242 : decode cX6_passes 242 = .ok (.isub, 1) := by decide +kernel
theorem dX6_passes_243 : decode cX6_passes 243 = .ok (.iadd, 1) := by decide +kernel
theorem dX6_passes_244 : decode cX6_passes 244 = .ok (.iastore, 1) := by decide +kernel
theorem dX6_passes_245 : decode cX6_passes 245 = .ok (.aload_n 0, 1) := by decide +kernel
theorem dX6_passes_246 : decode cX6_passes 246 = .ok (.getfield 7, 3) := by decide +kernel
theorem dX6_passes_249 : decode cX6_passes 249 = .ok (.sipush 202, 3) := by decide +kernel
theorem dX6_passes_252 : decode cX6_passes 252 = .ok (.iload_n 2, 1) := by decide +kernel
theorem dX6_passes_253 : decode cX6_passes 253 = .ok (.iadd, 1) := by decide +kernel
theorem dX6_passes_254 : decode cX6_passes 254 = .ok (.iconst 0, 1) := by decide +kernel
theorem dX6_passes_255 : decode cX6_passes 255 = .ok (.iastore, 1) := by decide +kernel
theorem dX6_passes_256 : decode cX6_passes 256 = .ok (.iinc 2 1, 3) := by decide +kernel
theorem dX6_passes_259 : decode cX6_passes 259 = .ok (.goto (-166), 3) := by decide +kernel
theorem dX6_passes_262 : decode cX6_passes 262 = .ok (.aload_n 0, 1) := by decide +kernel
theorem dX6_passes_263 : decode cX6_passes 263 = .ok (.getfield 7, 3) := by decide +kernel
theorem dX6_passes_266 : decode cX6_passes 266 = .ok (.iconst 0, 1) := by decide +kernel
theorem dX6_passes_267 : decode cX6_passes 267 = .ok (.dup2, 1) := by decide +kernel
theorem dX6_passes_268 : decode cX6_passes 268 = .ok (.iaload, 1) := by decide +kernel
theorem dX6_passes_269 : decode cX6_passes 269 = .ok (.iconst 1, 1) := by decide +kernel
theorem dX6_passes_270 : decode cX6_passes 270 = .ok (.iadd, 1) := by decide +kernel
theorem dX6_passes_271 : decode cX6_passes 271 = .ok (.iastore, 1) := by decide +kernel
theorem dX6_passes_272 : decode cX6_passes 272 = .ok (.return_, 1) := by decide +kernel
set_option maxRecDepth 20000 in
theorem ggX6_advance_X6_in : GoodIn wsX6_advance wsX6_in := goodIn_r _ [5] (by decide +kernel) (by decide +kernel)
set_option maxRecDepth 20000 in
theorem gX6_advance_X6_in : GoodIn wsX6_advance (va_wsS RX6 41 yX6_in wsX6_in) := goodIn_app (goodIn_of _ (by decide +kernel)) ggX6_advance_X6_in
set_option maxRecDepth 20000 in
theorem ggX6_advance_X6_passes : GoodIn wsX6_advance wsX6_passes := goodIn_r _ [9, 1, 10, 11, 12, 13, 14, 15, 4, 16, 17, 18, 19, 20, 21, 22, 23, 24, 25, 26, 27, 28, 29, 30, 31, 32, 33, 2, 3, 5, 34, 35, 36, 37, 38, 39, 40, 41, 42, 43, 44, 45, 46, 47, 48, 49, 50, 51, 52, 53, 54, 55, 56, 57, 58, 59, 60, 61, 62, 63, 64, 65, 66, 67, 68] (by decide +kernel) (by decide +kernel)
set_option maxRecDepth 20000 in
theorem gX6_advance_X6_passes : GoodIn wsX6_advance (wsV RX6 110 RX6 yX6_passes wsX6_passes) := goodIn_app (goodIn_of _ (by decide +kernel)) ggX6_advance_X6_passes
theorem dX6_advance_0 : decode cX6_advance 0 = .ok (.iload_n 1, 1) := by decide +kernel
theorem dX6_advance_1 : decode cX6_advance 1 = .ok (.iconst 1, 1) := by decide +kernel
theorem dX6_advance_2 : decode cX6_advance 2 = .ok (.bipush 48, 2) := by decide +kernel
theorem dX6_advance_4 : decode cX6_advance 4 = .ok (.invokestatic 41, 3) := by decide +kernel
theorem dX6_advance_7 : decode cX6_advance 7 = .ok (.ifCond .ne 6, 3) := by decide +kernel
theorem dX6_advance_10 : decode cX6_advance 10 = .ok (.bipush (-102), 2) := by decide +kernel
theorem dX6_advance_12 : decode cX6_advance 12 = .ok (.ireturn, 1) := by decide +kernel
theorem dX6_advance_13 : decode cX6_advance 13 = .ok (.aload_n 0, 1) := by decide +kernel
theorem dX6_advance_14 : decode cX6_advance 14 = .ok (.getfield 7, 3) := by decide +kernel
theorem dX6_advance_17 : decode cX6_advance 17 = .ok (.bipush 11, 2) := by decide +kernel
theorem dX6_advance_19 : decode cX6_advance 19 = .ok (.iaload, 1) := by decide +kernel
theorem dX6_advance_20 : decode cX6_advance 20 = .ok (.istore_n 2, 1) := by decide +kernel
theorem dX6_advance_21 : decode cX6_advance 21 = .ok (.iconst 0, 1) := by decide +kernel
theorem dX6_advance_22 : decode cX6_advance 22 = .ok (.istore_n 3, 1) := by decide +kernel
theorem dX6_advance_23 : decode cX6_advance 23 = .ok (.iload_n 3, 1) := by decide +kernel
theorem dX6_advance_24 : decode cX6_advance 24 = .ok (.iload_n 1, 1) := by decide +kernel
theorem dX6_advance_25 : decode cX6_advance 25 = .ok (.if_icmp .ge 13, 3) := by decide +kernel
theorem dX6_advance_28 : decode cX6_advance 28 = .ok (.aload_n 0, 1) := by decide +kernel
theorem dX6_advance_29 : decode cX6_advance 29 = .ok (.invokevirtual 110, 3) := by decide +kernel
theorem dX6_advance_32 : decode cX6_advance 32 = .ok (.iinc 3 1, 3) := by decide +kernel
theorem dX6_advance_35 : decode cX6_advance 35 = .ok (.goto (-12), 3) := by decide +kernel
theorem dX6_advance_38 : decode cX6_advance 38 = .ok (.aload_n 0, 1) := by decide +kernel
theorem dX6_advance_39 : decode cX6_advance 39 = .ok (.getfield 7, 3) := by decide +kernel
theorem dX6_advance_42 : decode cX6_advance 42 = .ok (.bipush 11, 2) := by decide +kernel
theorem dX6_advance_44 : decode cX6_advance 44 = .ok (.iaload, 1) := by decide +kernel
theorem dX6_advance_45 : decode cX6_advance 45 = .ok (.iload_n 2, 1) := by decide +kernel
theorem dX6_advance_46 : decode cX6_advance 46 = .ok (.isub, 1) := by decide +kernel
theorem dX6_advance_47 : decode cX6_advance 47 = .ok (.ireturn, 1) := by decide +kernel
set_option maxRecDepth 20000 in
theorem ggX6_account_X6_in : GoodIn wsX6_account wsX6_in := goodIn_r _ [5] (by decide +kernel) (by decide +kernel)
set_option maxRecDepth 20000 in
theorem gX6_account_X6_in : GoodIn wsX6_account (va_wsS RX6 41 yX6_in wsX6_in) := goodIn_app (goodIn_of _ (by decide +kernel)) ggX6_account_X6_in
theorem dX6_account_0 : decode cX6_account 0 = .ok (.iload_n 1, 1) := by decide +kernel
theorem dX6_account_1 : decode cX6_account 1 = .ok (.iconst 0, 1) := by decide +kernel
theorem dX6_account_2 : decode cX6_account 2 = .ok (.bipush 6, 2) := by decide +kernel
theorem dX6_account_4 : decode cX6_account 4 = .ok (.invokestatic 41, 3) := by decide +kernel
theorem dX6_account_7 : decode cX6_account 7 = .ok (.ifCond .eq 14, 3) := by decide +kernel
theorem dX6_account_10 : decode cX6_account 10 = .ok (.aload_n 0, 1) := by decide +kernel
theorem dX6_account_11 : decode cX6_account 11 = .ok (.getfield 7, 3) := by decide +kernel
theorem dX6_account_14 : decode cX6_account 14 = .ok (.iconst 5, 1) := by decide +kernel
theorem dX6_account_15 : decode cX6_account 15 = .ok (.iload_n 1, 1) := by decide +kernel
theorem dX6_account_16 : decode cX6_account 16 = .ok (.iadd, 1) := by decide +kernel
theorem dX6_account_17 : decode cX6_account 17 = .ok (.iaload, 1) := by decide +kernel
theorem dX6_account_18 : decode cX6_account 18 = .ok (.goto 5, 3) := by decide +kernel
theorem dX6_account_21 : decode cX6_account 21 = .ok (.bipush (-102), 2) := by decide +kernel
theorem dX6_account_23 : decode cX6_account 23 = .ok (.ireturn, 1) := by decide +kernel
set_option maxRecDepth 20000 in
theorem ggX6_pond_X6_isUser : GoodIn wsX6_pond wsX6_isUser := goodIn_r _ [6, 1, 7, 8, 5, 9, 10, 11, 12, 13, 14, 15, 16, 17, 18, 19, 20, 21] (by decide +kernel) (by decide +kernel)
set_option maxRecDepth 20000 in
theorem gX6_pond_X6_isUser : GoodIn wsX6_pond (wsV RX6 64 RX6 yX6_isUser wsX6_isUser) := goodIn_app (goodIn_of _ (by decide +kernel)) ggX6_pond_X6_isUser
theorem dX6_pond_0 : decode cX6_pond 0 = .ok (.aload_n 0, 1) := by decide +kernel
theorem dX6_pond_1 : decode cX6_pond 1 = .ok (.iload_n 1, 1) := by decide +kernel
theorem dX6_pond_2 : decode cX6_pond 2 = .ok (.invokevirtual 64, 3) := by decide +kernel
theorem dX6_pond_5 : decode cX6_pond 5 = .ok (.ifCond .eq 16, 3) := by decide +kernel
theorem dX6_pond_8 : decode cX6_pond 8 = .ok (.aload_n 0, 1) := by decide +kernel
theorem dX6_pond_9 : decode cX6_pond 9 = .ok (.getfield 7, 3) := by decide +kernel
theorem dX6_pond_12 : decode cX6_pond 12 = .ok (.sipush 154, 3) := by decide +kernel
theorem dX6_pond_15 : decode cX6_pond 15 = .ok (.iload_n 1, 1) := by decide +kernel
theorem dX6_pond_16 : decode cX6_pond 16 = .ok (.iadd, 1) := by decide +kernel
theorem dX6_pond_17 : decode cX6_pond 17 = .ok (.iaload, 1) := by decide +kernel
theorem dX6_pond_18 : decode cX6_pond 18 = .ok (.goto 5, 3) := by decide +kernel
theorem dX6_pond_21 : decode cX6_pond 21 = .ok (.bipush (-101), 2) := by decide +kernel
theorem dX6_pond_23 : decode cX6_pond 23 = .ok (.ireturn, 1) := by decide +kernel
set_option maxRecDepth 20000 in
theorem ggX6_missed_X6_isUser : GoodIn wsX6_missed wsX6_isUser := goodIn_r _ [6, 1, 7, 8, 5, 9, 10, 11, 12, 13, 14, 15, 16, 17, 18, 19, 20, 21] (by decide +kernel) (by decide +kernel)
set_option maxRecDepth 20000 in
theorem gX6_missed_X6_isUser : GoodIn wsX6_missed (wsV RX6 64 RX6 yX6_isUser wsX6_isUser) := goodIn_app (goodIn_of _ (by decide +kernel)) ggX6_missed_X6_isUser
theorem dX6_missed_0 : decode cX6_missed 0 = .ok (.aload_n 0, 1) := by decide +kernel
theorem dX6_missed_1 : decode cX6_missed 1 = .ok (.iload_n 1, 1) := by decide +kernel
theorem dX6_missed_2 : decode cX6_missed 2 = .ok (.invokevirtual 64, 3) := by decide +kernel
theorem dX6_missed_5 : decode cX6_missed 5 = .ok (.ifCond .eq 16, 3) := by decide +kernel
theorem dX6_missed_8 : decode cX6_missed 8 = .ok (.aload_n 0, 1) := by decide +kernel
theorem dX6_missed_9 : decode cX6_missed 9 = .ok (.getfield 7, 3) := by decide +kernel
theorem dX6_missed_12 : decode cX6_missed 12 = .ok (.sipush 190, 3) := by decide +kernel
theorem dX6_missed_15 : decode cX6_missed 15 = .ok (.iload_n 1, 1) := by decide +kernel
theorem dX6_missed_16 : decode cX6_missed 16 = .ok (.iadd, 1) := by decide +kernel
theorem dX6_missed_17 : decode cX6_missed 17 = .ok (.iaload, 1) := by decide +kernel
theorem dX6_missed_18 : decode cX6_missed 18 = .ok (.goto 5, 3) := by decide +kernel
theorem dX6_missed_21 : decode cX6_missed 21 = .ok (.bipush (-101), 2) := by decide +kernel
theorem dX6_missed_23 : decode cX6_missed 23 = .ok (.ireturn, 1) := by decide +kernel
theorem dX6_keeps_0 : decode cX6_keeps 0 = .ok (.iconst 0, 1) := by decide +kernel
theorem dX6_keeps_1 : decode cX6_keeps 1 = .ok (.istore_n 1, 1) := by decide +kernel
theorem dX6_keeps_2 : decode cX6_keeps 2 = .ok (.iload_n 1, 1) := by decide +kernel
theorem dX6_keeps_3 : decode cX6_keeps 3 = .ok (.sipush 214, 3) := by decide +kernel
theorem dX6_keeps_6 : decode cX6_keeps 6 = .ok (.if_icmp .ge 21, 3) := by decide +kernel
theorem dX6_keeps_9 : decode cX6_keeps 9 = .ok (.aload_n 0, 1) := by decide +kernel
theorem dX6_keeps_10 : decode cX6_keeps 10 = .ok (.getfield 13, 3) := by decide +kernel
theorem dX6_keeps_13 : decode cX6_keeps 13 = .ok (.iload_n 1, 1) := by decide +kernel
theorem dX6_keeps_14 : decode cX6_keeps 14 = .ok (.aload_n 0, 1) := by decide +kernel
theorem dX6_keeps_15 : decode cX6_keeps 15 = .ok (.getfield 7, 3) := by decide +kernel
theorem dX6_keeps_18 : decode cX6_keeps 18 = .ok (.iload_n 1, 1) := by decide +kernel
theorem dX6_keeps_19 : decode cX6_keeps 19 = .ok (.iaload, 1) := by decide +kernel
theorem dX6_keeps_20 : decode cX6_keeps 20 = .ok (.iastore, 1) := by decide +kernel
theorem dX6_keeps_21 : decode cX6_keeps 21 = .ok (.iinc 1 1, 3) := by decide +kernel
theorem dX6_keeps_24 : decode cX6_keeps 24 = .ok (.goto (-22), 3) := by decide +kernel
theorem dX6_keeps_27 : decode cX6_keeps 27 = .ok (.return_, 1) := by decide +kernel
theorem dX6_brings_0 : decode cX6_brings 0 = .ok (.iconst 0, 1) := by decide +kernel
theorem dX6_brings_1 : decode cX6_brings 1 = .ok (.istore_n 1, 1) := by decide +kernel
theorem dX6_brings_2 : decode cX6_brings 2 = .ok (.iload_n 1, 1) := by decide +kernel
theorem dX6_brings_3 : decode cX6_brings 3 = .ok (.sipush 214, 3) := by decide +kernel
theorem dX6_brings_6 : decode cX6_brings 6 = .ok (.if_icmp .ge 21, 3) := by decide +kernel
theorem dX6_brings_9 : decode cX6_brings 9 = .ok (.aload_n 0, 1) := by decide +kernel
theorem dX6_brings_10 : decode cX6_brings 10 = .ok (.getfield 7, 3) := by decide +kernel
theorem dX6_brings_13 : decode cX6_brings 13 = .ok (.iload_n 1, 1) := by decide +kernel
theorem dX6_brings_14 : decode cX6_brings 14 = .ok (.aload_n 0, 1) := by decide +kernel
theorem dX6_brings_15 : decode cX6_brings 15 = .ok (.getfield 13, 3) := by decide +kernel
theorem dX6_brings_18 : decode cX6_brings 18 = .ok (.iload_n 1, 1) := by decide +kernel
theorem dX6_brings_19 : decode cX6_brings 19 = .ok (.iaload, 1) := by decide +kernel
theorem dX6_brings_20 : decode cX6_brings 20 = .ok (.iastore, 1) := by decide +kernel
theorem dX6_brings_21 : decode cX6_brings 21 = .ok (.iinc 1 1, 3) := by decide +kernel
theorem dX6_brings_24 : decode cX6_brings 24 = .ok (.goto (-22), 3) := by decide +kernel
theorem dX6_brings_27 : decode cX6_brings 27 = .ok (.return_, 1) := by decide +kernel
set_option maxRecDepth 20000 in
theorem ggX6_willMiss_X6_isUser : GoodIn wsX6_willMiss wsX6_isUser := goodIn_r _ [7, 1, 8, 9, 6, 10, 70, 71, 72, 73, 74, 75, 76, 77, 78, 79, 80, 81] (by decide +kernel) (by decide +kernel)
set_option maxRecDepth 20000 in
theorem gX6_willMiss_X6_isUser : GoodIn wsX6_willMiss (wsV RX6 64 RX6 yX6_isUser wsX6_isUser) := goodIn_app (goodIn_of _ (by decide +kernel)) ggX6_willMiss_X6_isUser
set_option maxRecDepth 20000 in
theorem ggX6_willMiss_X6_in : GoodIn wsX6_willMiss wsX6_in := goodIn_r _ [10] (by decide +kernel) (by decide +kernel)
set_option maxRecDepth 20000 in
theorem gX6_willMiss_X6_in : GoodIn wsX6_willMiss (va_wsS RX6 41 yX6_in wsX6_in) := goodIn_app (goodIn_of _ (by decide +kernel)) ggX6_willMiss_X6_in
set_option maxRecDepth 20000 in
theorem ggX6_willMiss_X6_keeps : GoodIn wsX6_willMiss wsX6_keeps := goodIn_r _ [14, 2, 1, 70, 71, 72, 73, 74, 75, 76, 77, 78, 79, 80, 81] (by decide +kernel) (by decide +kernel)
set_option maxRecDepth 20000 in
theorem gX6_willMiss_X6_keeps : GoodIn wsX6_willMiss (wsV RX6 113 RX6 yX6_keeps wsX6_keeps) := goodIn_app (goodIn_of _ (by decide +kernel)) ggX6_willMiss_X6_keeps
set_option maxRecDepth 20000 in
theorem ggX6_willMiss_X6_passes : GoodIn wsX6_willMiss wsX6_passes := goodIn_r _ [18, 1, 19, 20, 21, 22, 23, 24, 6, 25, 26, 27, 28, 29, 30, 31, 32, 33, 34, 35, 36, 37, 38, 39, 40, 41, 42, 8, 9, 10, 43, 44, 45, 46, 47, 48, 49, 50, 51, 52, 53, 54, 55, 56, 57, 58, 59, 60, 61, 62, 63, 64, 65, 70, 71, 72, 73, 74, 75, 76, 77, 78, 79, 80, 81] (by decide +kernel) (by decide +kernel)
set_option maxRecDepth 20000 in
theorem gX6_willMiss_X6_passes : GoodIn wsX6_willMiss (wsV RX6 110 RX6 yX6_passes wsX6_passes) := goodIn_app (goodIn_of _ (by decide +kernel)) ggX6_willMiss_X6_passes
set_option maxRecDepth 20000 in
theorem ggX6_willMiss_X6_brings : GoodIn wsX6_willMiss wsX6_brings := goodIn_r _ [69, 1, 2, 70, 71, 72, 73, 74, 75, 76, 77, 78, 79, 80, 81] (by decide +kernel) (by decide +kernel)
set_option maxRecDepth 20000 in
theorem gX6_willMiss_X6_brings : GoodIn wsX6_willMiss (wsV RX6 116 RX6 yX6_brings wsX6_brings) := goodIn_app (goodIn_of _ (by decide +kernel)) ggX6_willMiss_X6_brings
theorem dX6_willMiss_0 : decode cX6_willMiss 0 = .ok (.aload_n 0, 1) := by decide +kernel
theorem dX6_willMiss_1 : decode cX6_willMiss 1 = .ok (.iload_n 1, 1) := by decide +kernel
theorem dX6_willMiss_2 : decode cX6_willMiss 2 = .ok (.invokevirtual 64, 3) := by decide +kernel
theorem dX6_willMiss_5 : decode cX6_willMiss 5 = .ok (.ifCond .ne 6, 3) := by decide +kernel
theorem dX6_willMiss_8 : decode cX6_willMiss 8 = .ok (.bipush (-101), 2) := by decide +kernel
theorem dX6_willMiss_10 : decode cX6_willMiss 10 = .ok (.ireturn, 1) := by decide +kernel
theorem dX6_willMiss_11 : decode cX6_willMiss 11 = .ok (.iload_n 2, 1) := by decide +kernel
theorem dX6_willMiss_12 : decode cX6_willMiss 12 = .ok (.iconst 1, 1) := by decide +kernel
theorem dX6_willMiss_13 : decode cX6_willMiss 13 = .ok (.bipush 48, 2) := by decide +kernel
theorem dX6_willMiss_15 : decode cX6_willMiss 15 = .ok (.invokestatic 41, 3) := by decide +kernel
theorem dX6_willMiss_18 : decode cX6_willMiss 18 = .ok (.ifCond .ne 6, 3) := by decide +kernel
theorem dX6_willMiss_21 : decode cX6_willMiss 21 = .ok (.bipush (-102), 2) := by decide +kernel
theorem dX6_willMiss_23 : decode cX6_willMiss 23 = .ok (.ireturn, 1) := by decide +kernel
theorem dX6_willMiss_24 : decode cX6_willMiss 24 = .ok (.aload_n 0, 1) := by decide +kernel
theorem dX6_willMiss_25 : decode cX6_willMiss 25 = .ok (.invokevirtual 113, 3) := by decide +kernel
theorem dX6_willMiss_28 : decode cX6_willMiss 28 = .ok (.iconst 0, 1) := by decide +kernel
theorem dX6_willMiss_29 : decode cX6_willMiss 29 = .ok (.istore_n 3, 1) := by decide +kernel
theorem dX6_willMiss_30 : decode cX6_willMiss 30 = .ok (.iload_n 3, 1) := by decide +kernel
theorem dX6_willMiss_31 : decode cX6_willMiss 31 = .ok (.iload_n 2, 1) := by decide +kernel
theorem dX6_willMiss_32 : decode cX6_willMiss 32 = .ok (.if_icmp .ge 13, 3) := by decide +kernel
theorem dX6_willMiss_35 : decode cX6_willMiss 35 = .ok (.aload_n 0, 1) := by decide +kernel
theorem dX6_willMiss_36 : decode cX6_willMiss 36 = .ok (.invokevirtual 110, 3) := by decide +kernel
theorem dX6_willMiss_39 : decode cX6_willMiss 39 = .ok (.iinc 3 1, 3) := by decide +kernel
theorem dX6_willMiss_42 : decode cX6_willMiss 42 = .ok (.goto (-12), 3) := by decide +kernel
theorem dX6_willMiss_45 : decode cX6_willMiss 45 = .ok (.aload_n 0, 1) := by decide +kernel
theorem dX6_willMiss_46 : decode cX6_willMiss 46 = .ok (.getfield 7, 3) := by decide +kernel
theorem dX6_willMiss_49 : decode cX6_willMiss 49 = .ok (.sipush 190, 3) := by decide +kernel
theorem dX6_willMiss_52 : decode cX6_willMiss 52 = .ok (.iload_n 1, 1) := by decide +kernel
theorem dX6_willMiss_53 : decode cX6_willMiss 53 = .ok (.iadd, 1) := by decide +kernel
theorem dX6_willMiss_54 : decode cX6_willMiss 54 = .ok (.iaload, 1) := by decide +kernel
theorem dX6_willMiss_55 : decode cX6_willMiss 55 = .ok (.aload_n 0, 1) := by decide +kernel
theorem dX6_willMiss_56 : decode cX6_willMiss 56 = .ok (.getfield 13, 3) := by decide +kernel
theorem dX6_willMiss_59 : decode cX6_willMiss 59 = .ok (.sipush 190, 3) := by decide +kernel
theorem dX6_willMiss_62 : decode cX6_willMiss 62 = .ok (.iload_n 1, 1) := by decide +kernel
theorem dX6_willMiss_63 : decode cX6_willMiss 63 = .ok (.iadd, 1) := by decide +kernel
theorem dX6_willMiss_64 : decode cX6_willMiss 64 = .ok (.iaload, 1) := by decide +kernel
theorem dX6_willMiss_65 : decode cX6_willMiss 65 = .ok (.isub, 1) := by decide +kernel
theorem dX6_willMiss_66 : decode cX6_willMiss 66 = .ok (.istore_n 3, 1) := by decide +kernel
theorem dX6_willMiss_67 : decode cX6_willMiss 67 = .ok (.aload_n 0, 1) := by decide +kernel
theorem dX6_willMiss_68 : decode cX6_willMiss 68 = .ok (.invokevirtual 116, 3) := by decide +kernel
theorem dX6_willMiss_71 : decode cX6_willMiss 71 = .ok (.iload_n 3, 1) := by decide +kernel
theorem dX6_willMiss_72 : decode cX6_willMiss 72 = .ok (.ireturn, 1) := by decide +kernel
theorem dX6_isFull_0 : decode cX6_isFull 0 = .ok (.aload_n 0, 1) := by decide +kernel
theorem dX6_isFull_1 : decode cX6_isFull 1 = .ok (.getfield 7, 3) := by decide +kernel
theorem dX6_isFull_4 : decode cX6_isFull 4 = .ok (.sipush 154, 3) := by decide +kernel
theorem dX6_isFull_7 : decode cX6_isFull 7 = .ok (.iload_n 1, 1) := by decide +kernel
theorem dX6_isFull_8 : decode cX6_isFull 8 = .ok (.iadd, 1) := by decide +kernel
theorem dX6_isFull_9 : decode cX6_isFull 9 = .ok (.iaload, 1) := by decide +kernel
theorem dX6_isFull_10 : decode cX6_isFull 10 = .ok (.aload_n 0, 1) := by decide +kernel
theorem dX6_isFull_11 : decode cX6_isFull 11 = .ok (.getfield 7, 3) := by decide +kernel
theorem dX6_isFull_14 : decode cX6_isFull 14 = .ok (.sipush 142, 3) := by decide +kernel
theorem dX6_isFull_17 : decode cX6_isFull 17 = .ok (.iload_n 1, 1) := by decide +kernel
theorem dX6_isFull_18 : decode cX6_isFull 18 = .ok (.iadd, 1) := by decide +kernel
theorem dX6_isFull_19 : decode cX6_isFull 19 = .ok (.iaload, 1) := by decide +kernel
theorem dX6_isFull_20 : decode cX6_isFull 20 = .ok (.if_icmp .ne 7, 3) := by decide +kernel
theorem dX6_isFull_23 : decode cX6_isFull 23 = .ok (.iconst 1, 1) := by decide +kernel
theorem dX6_isFull_24 : decode cX6_isFull 24 = .ok (.goto 4, 3) := by decide +kernel
theorem dX6_isFull_27 : decode cX6_isFull 27 = .ok (.iconst 0, 1) := by decide +kernel
theorem dX6_isFull_28 : decode cX6_isFull 28 = .ok (.ireturn, 1) := by decide +kernel
set_option maxRecDepth 20000 in
theorem ggX6_hoursToFull_X6_isUser : GoodIn wsX6_hoursToFull wsX6_isUser := goodIn_r _ [5, 6, 7, 8, 4, 9, 74, 75, 76, 77, 78, 79, 80, 81, 82, 83, 84, 85] (by decide +kernel) (by decide +kernel)
set_option maxRecDepth 20000 in
theorem gX6_hoursToFull_X6_isUser : GoodIn wsX6_hoursToFull (wsV RX6 64 RX6 yX6_isUser wsX6_isUser) := goodIn_app (goodIn_of _ (by decide +kernel)) ggX6_hoursToFull_X6_isUser
set_option maxRecDepth 20000 in
theorem ggX6_hoursToFull_X6_keeps : GoodIn wsX6_hoursToFull wsX6_keeps := goodIn_r _ [13, 14, 6, 74, 75, 76, 77, 78, 79, 80, 81, 82, 83, 84, 85] (by decide +kernel) (by decide +kernel)
set_option maxRecDepth 20000 in
theorem gX6_hoursToFull_X6_keeps : GoodIn wsX6_hoursToFull (wsV RX6 113 RX6 yX6_keeps wsX6_keeps) := goodIn_app (goodIn_of _ (by decide +kernel)) ggX6_hoursToFull_X6_keeps
set_option maxRecDepth 20000 in
theorem ggX6_hoursToFull_X6_isFull : GoodIn wsX6_hoursToFull wsX6_isFull := goodIn_r _ [18, 6, 74, 75, 76, 77, 78, 79, 80, 81, 82, 83, 84, 85] (by decide +kernel) (by decide +kernel)
set_option maxRecDepth 20000 in
theorem gX6_hoursToFull_X6_isFull : GoodIn wsX6_hoursToFull (wsV RX6 119 RX6 yX6_isFull wsX6_isFull) := goodIn_app (goodIn_of _ (by decide +kernel)) ggX6_hoursToFull_X6_isFull
set_option maxRecDepth 20000 in
theorem ggX6_hoursToFull_X6_passes : GoodIn wsX6_hoursToFull wsX6_passes := goodIn_r _ [22, 6, 23, 24, 25, 26, 27, 28, 4, 29, 30, 31, 32, 33, 34, 35, 36, 37, 38, 39, 40, 41, 42, 43, 44, 45, 46, 7, 8, 9, 47, 48, 49, 50, 51, 52, 53, 54, 55, 56, 57, 58, 59, 60, 61, 62, 63, 64, 65, 66, 67, 68, 69, 74, 75, 76, 77, 78, 79, 80, 81, 82, 83, 84, 85] (by decide +kernel) (by decide +kernel)
set_option maxRecDepth 20000 in
theorem gX6_hoursToFull_X6_passes : GoodIn wsX6_hoursToFull (wsV RX6 110 RX6 yX6_passes wsX6_passes) := goodIn_app (goodIn_of _ (by decide +kernel)) ggX6_hoursToFull_X6_passes
set_option maxRecDepth 20000 in
theorem ggX6_hoursToFull_X6_brings : GoodIn wsX6_hoursToFull wsX6_brings := goodIn_r _ [73, 6, 14, 74, 75, 76, 77, 78, 79, 80, 81, 82, 83, 84, 85] (by decide +kernel) (by decide +kernel)
set_option maxRecDepth 20000 in
theorem gX6_hoursToFull_X6_brings : GoodIn wsX6_hoursToFull (wsV RX6 116 RX6 yX6_brings wsX6_brings) := goodIn_app (goodIn_of _ (by decide +kernel)) ggX6_hoursToFull_X6_brings
theorem dX6_hoursToFull_0 : decode cX6_hoursToFull 0 = .ok (.aload_n 0, 1) := by decide +kernel
theorem dX6_hoursToFull_1 : decode cX6_hoursToFull 1 = .ok (.iload_n 1, 1) := by decide +kernel
theorem dX6_hoursToFull_2 : decode cX6_hoursToFull 2 = .ok (.invokevirtual 64, 3) := by decide +kernel
theorem dX6_hoursToFull_5 : decode cX6_hoursToFull 5 = .ok (.ifCond .ne 6, 3) := by decide +kernel
theorem dX6_hoursToFull_8 : decode cX6_hoursToFull 8 = .ok (.bipush (-101), 2) := by decide +kernel
theorem dX6_hoursToFull_10 : decode cX6_hoursToFull 10 = .ok (.ireturn, 1) := by decide +kernel
theorem dX6_hoursToFull_11 : decode cX6_hoursToFull 11 = .ok (.aload_n 0, 1) := by decide +kernel
theorem dX6_hoursToFull_12 : decode cX6_hoursToFull 12 = .ok (.invokevirtual 113, 3) := by decide +kernel
theorem dX6_hoursToFull_15 : decode cX6_hoursToFull 15 = .ok (.iconst 0, 1) := by decide +kernel
theorem dX6_hoursToFull_16 : decode cX6_hoursToFull 16 = .ok (.istore_n 2, 1) := by decide +kernel
theorem dX6_hoursToFull_17 : decode cX6_hoursToFull 17 = .ok (.iload_n 2, 1) := by decide +kernel
theorem dX6_hoursToFull_18 : decode cX6_hoursToFull 18 = .ok (.bipush 48, 2) := by decide +kernel
theorem dX6_hoursToFull_20 : decode cX6_hoursToFull 20 = .ok (.if_icmp .ge 21, 3) := by decide +kernel
theorem dX6_hoursToFull_23 : decode cX6_hoursToFull 23 = .ok (.aload_n 0, 1) := by decide +kernel
theorem dX6_hoursToFull_24 : decode cX6_hoursToFull 24 = .ok (.iload_n 1, 1) := by decide +kernel
theorem dX6_hoursToFull_25 : decode cX6_hoursToFull 25 = .ok (.invokevirtual 119, 3) := by decide +kernel
theorem dX6_hoursToFull_28 : decode cX6_hoursToFull 28 = .ok (.ifCond .ne 13, 3) := by decide +kernel
theorem dX6_hoursToFull_31 : decode cX6_hoursToFull 31 = .ok (.aload_n 0, 1) := by decide +kernel
theorem dX6_hoursToFull_32 : decode cX6_hoursToFull 32 = .ok (.invokevirtual 110, 3) := by decide +kernel
theorem dX6_hoursToFull_35 : decode cX6_hoursToFull 35 = .ok (.iinc 2 1, 3) := by decide +kernel
theorem dX6_hoursToFull_38 : decode cX6_hoursToFull 38 = .ok (.goto (-21), 3) := by decide +kernel
theorem dX6_hoursToFull_41 : decode cX6_hoursToFull 41 = .ok (.aload_n 0, 1) := by decide +kernel
theorem dX6_hoursToFull_42 : decode cX6_hoursToFull 42 = .ok (.iload_n 1, 1) := by decide +kernel
theorem dX6_hoursToFull_43 : decode cX6_hoursToFull 43 = .ok (.invokevirtual 119, 3) := by decide +kernel
theorem dX6_hoursToFull_46 : decode cX6_hoursToFull 46 = .ok (.ifCond .eq 7, 3) := by decide +kernel
theorem dX6_hoursToFull_49 : decode cX6_hoursToFull 49 = .ok (.iload_n 2, 1) := by decide +kernel
theorem dX6_hoursToFull_50 : decode cX6_hoursToFull 50 = .ok (.goto 5, 3) := by decide +kernel
theorem dX6_hoursToFull_53 : decode cX6_hoursToFull 53 = .ok (.bipush (-105), 2) := by decide +kernel
theorem dX6_hoursToFull_55 : decode cX6_hoursToFull 55 = .ok (.istore_n 3, 1) := by decide +kernel
theorem dX6_hoursToFull_56 : decode cX6_hoursToFull 56 = .ok (.aload_n 0, 1) := by decide +kernel
theorem dX6_hoursToFull_57 : decode cX6_hoursToFull 57 = .ok (.invokevirtual 116, 3) := by decide +kernel
theorem dX6_hoursToFull_60 : decode cX6_hoursToFull 60 = .ok (.iload_n 3, 1) := by decide +kernel
theorem dX6_hoursToFull_61 : decode cX6_hoursToFull 61 = .ok (.ireturn, 1) := by decide +kernel
set_option maxRecDepth 20000 in
theorem ggX6_gainOf_X6_distributes : GoodIn wsX6_gainOf wsX6_distributes := goodIn_r _ [7, 2, 1, 8, 9, 10, 6, 11, 12, 13, 14, 15, 16, 17, 18, 19, 20, 21, 22, 23, 24, 25, 26, 27, 28, 29, 30, 31, 32, 33, 34, 35, 36, 37, 38, 39, 40, 41, 42, 43, 44, 45, 46, 47, 48, 49, 50, 51, 52, 57, 58, 59, 60, 61, 62, 63, 64, 65, 66, 67, 68] (by decide +kernel) (by decide +kernel)
set_option maxRecDepth 20000 in
theorem gX6_gainOf_X6_distributes : GoodIn wsX6_gainOf (wsV RX6 104 RX6 yX6_distributes wsX6_distributes) := goodIn_app (goodIn_of _ (by decide +kernel)) ggX6_gainOf_X6_distributes
set_option maxRecDepth 20000 in
theorem ggX6_gainOf_X6_puts : GoodIn wsX6_gainOf wsX6_puts := goodIn_r _ [56, 2, 57, 58, 59, 60, 61, 62, 63, 64, 65, 66, 67, 68] (by decide +kernel) (by decide +kernel)
set_option maxRecDepth 20000 in
theorem gX6_gainOf_X6_puts : GoodIn wsX6_gainOf (wsV RX6 57 RX6 yX6_puts wsX6_puts) := goodIn_app (goodIn_of _ (by decide +kernel)) ggX6_gainOf_X6_puts
theorem dX6_gainOf_0 : decode cX6_gainOf 0 = .ok (.aload_n 0, 1) := by decide +kernel
theorem dX6_gainOf_1 : decode cX6_gainOf 1 = .ok (.invokevirtual 104, 3) := by decide +kernel
theorem dX6_gainOf_4 : decode cX6_gainOf 4 = .ok (.aload_n 0, 1) := by decide +kernel
theorem dX6_gainOf_5 : decode cX6_gainOf 5 = .ok (.getfield 29, 3) := by decide +kernel
theorem dX6_gainOf_8 : decode cX6_gainOf 8 = .ok (.iload_n 1, 1) := by decide +kernel
theorem dX6_gainOf_9 : decode cX6_gainOf 9 = .ok (.iaload, 1) := by decide +kernel
theorem dX6_gainOf_10 : decode cX6_gainOf 10 = .ok (.istore_n 3, 1) := by decide +kernel
theorem dX6_gainOf_11 : decode cX6_gainOf 11 = .ok (.aload_n 0, 1) := by decide +kernel
theorem dX6_gainOf_12 : decode cX6_gainOf 12 = .ok (.sipush 202, 3) := by decide +kernel
theorem dX6_gainOf_15 : decode cX6_gainOf 15 = .ok (.iload_n 2, 1) := by decide +kernel
theorem dX6_gainOf_16 : decode cX6_gainOf 16 = .ok (.iadd, 1) := by decide +kernel
theorem dX6_gainOf_17 : decode cX6_gainOf 17 = .ok (.iconst 1, 1) := by decide +kernel
theorem dX6_gainOf_18 : decode cX6_gainOf 18 = .ok (.invokevirtual 57, 3) := by decide +kernel
theorem dX6_gainOf_21 : decode cX6_gainOf 21 = .ok (.istore 4, 2) := by decide +kernel
theorem dX6_gainOf_23 : decode cX6_gainOf 23 = .ok (.aload_n 0, 1) := by decide +kernel
theorem dX6_gainOf_24 : decode cX6_gainOf 24 = .ok (.invokevirtual 104, 3) := by decide +kernel
theorem dX6_gainOf_27 : decode cX6_gainOf 27 = .ok (.aload_n 0, 1) := by decide +kernel
theorem dX6_gainOf_28 : decode cX6_gainOf 28 = .ok (.getfield 7, 3) := by decide +kernel
theorem dX6_gainOf_31 : decode cX6_gainOf 31 = .ok (.sipush 202, 3) := by decide +kernel
theorem dX6_gainOf_34 : decode cX6_gainOf 34 = .ok (.iload_n 2, 1) := by decide +kernel
theorem dX6_gainOf_35 : decode cX6_gainOf 35 = .ok (.iadd, 1) := by decide +kernel
theorem dX6_gainOf_36 : decode cX6_gainOf 36 = .ok (.iload 4, 2) := by decide +kernel
theorem dX6_gainOf_38 : decode cX6_gainOf 38 = .ok (.iastore, 1) := by decide +kernel
theorem dX6_gainOf_39 : decode cX6_gainOf 39 = .ok (.aload_n 0, 1) := by decide +kernel
theorem dX6_gainOf_40 : decode cX6_gainOf 40 = .ok (.getfield 29, 3) := by decide +kernel
theorem dX6_gainOf_43 : decode cX6_gainOf 43 = .ok (.iload_n 1, 1) := by decide +kernel
theorem dX6_gainOf_44 : decode cX6_gainOf 44 = .ok (.iaload, 1) := by decide +kernel
theorem dX6_gainOf_45 : decode cX6_gainOf 45 = .ok (.iload_n 3, 1) := by decide +kernel
theorem dX6_gainOf_46 : decode cX6_gainOf 46 = .ok (.isub, 1) := by decide +kernel
theorem dX6_gainOf_47 : decode cX6_gainOf 47 = .ok (.ireturn, 1) := by decide +kernel
set_option maxRecDepth 20000 in
theorem ggX6_judged_X6_distributes : GoodIn wsX6_judged wsX6_distributes := goodIn_r _ [8, 3, 1, 9, 10, 11, 7, 12, 2, 13, 14, 15, 16, 17, 18, 19, 20, 21, 22, 23, 24, 25, 26, 27, 28, 29, 30, 31, 32, 33, 34, 35, 36, 37, 38, 39, 40, 41, 42, 43, 44, 45, 46, 47, 48, 49, 50, 51, 52, 61, 62, 63, 64, 65, 66, 67, 68, 69, 70, 71, 72] (by decide +kernel) (by decide +kernel)
set_option maxRecDepth 20000 in
theorem gX6_judged_X6_distributes : GoodIn wsX6_judged (wsV RX6 104 RX6 yX6_distributes wsX6_distributes) := goodIn_app (goodIn_of _ (by decide +kernel)) ggX6_judged_X6_distributes
set_option maxRecDepth 20000 in
theorem ggX6_judged_X6_gainOf : GoodIn wsX6_judged wsX6_gainOf := goodIn_r _ [56, 1, 3, 4, 5, 6, 7, 8, 9, 10, 11, 12, 2, 13, 14, 15, 16, 17, 18, 19, 20, 21, 22, 23, 24, 25, 26, 27, 28, 29, 30, 31, 32, 33, 34, 35, 36, 37, 38, 39, 40, 41, 42, 43, 44, 45, 46, 47, 48, 49, 50, 51, 52, 57, 58, 59, 60, 61, 62, 63, 64, 65, 66, 67, 68, 69, 70, 71, 72] (by decide +kernel) (by decide +kernel)
set_option maxRecDepth 20000 in
theorem gX6_judged_X6_gainOf : GoodIn wsX6_judged (wsV RX6 122 RX6 yX6_gainOf wsX6_gainOf) := goodIn_app (goodIn_of _ (by decide +kernel)) ggX6_judged_X6_gainOf
theorem dX6_judged_0 : decode cX6_judged 0 = .ok (.aload_n 0, 1) := by decide +kernel
theorem dX6_judged_1 : decode cX6_judged 1 = .ok (.invokevirtual 104, 3) := by decide +kernel
theorem dX6_judged_4 : decode cX6_judged 4 = .ok (.aload_n 0, 1) := by decide +kernel
theorem dX6_judged_5 : decode cX6_judged 5 = .ok (.getfield 29, 3) := by decide +kernel
theorem dX6_judged_8 : decode cX6_judged 8 = .ok (.iload_n 2, 1) := by decide +kernel
theorem dX6_judged_9 : decode cX6_judged 9 = .ok (.iaload, 1) := by decide +kernel
theorem dX6_judged_10 : decode cX6_judged 10 = .ok (.istore_n 3, 1) := by decide +kernel
theorem dX6_judged_11 : decode cX6_judged 11 = .ok (.aload_n 0, 1) := by decide +kernel
theorem dX6_judged_12 : decode cX6_judged 12 = .ok (.getfield 29, 3) := by decide +kernel
theorem dX6_judged_15 : decode cX6_judged 15 = .ok (.iload_n 1, 1) := by decide +kernel
theorem dX6_judged_16 : decode cX6_judged 16 = .ok (.iaload, 1) := by decide +kernel
theorem dX6_judged_17 : decode cX6_judged 17 = .ok (.aload_n 0, 1) := by decide +kernel
theorem dX6_judged_18 : decode cX6_judged 18 = .ok (.getfield 26, 3) := by decide +kernel
theorem dX6_judged_21 : decode cX6_judged 21 = .ok (.iload_n 1, 1) := by decide +kernel
theorem dX6_judged_22 : decode cX6_judged 22 = .ok (.iaload, 1) := by decide +kernel
theorem dX6_judged_23 : decode cX6_judged 23 = .ok (.if_icmp .ge 7, 3) := by decide +kernel
theorem dX6_judged_26 : decode cX6_judged 26 = .ok (.iload_n 3, 1) := by decide +kernel
theorem dX6_judged_27 : decode cX6_judged 27 = .ok (.ifCond .ne 5, 3) := by decide +kernel
theorem dX6_judged_30 : decode cX6_judged 30 = .ok (.iconst 0, 1) := by decide +kernel
theorem dX6_judged_31 : decode cX6_judged 31 = .ok (.ireturn, 1) := by decide +kernel
theorem dX6_judged_32 : decode cX6_judged 32 = .ok (.aload_n 0, 1) := by decide +kernel
theorem dX6_judged_33 : decode cX6_judged 33 = .ok (.iload_n 1, 1) := by decide +kernel
theorem dX6_judged_34 : decode cX6_judged 34 = .ok (.iload_n 2, 1) := by decide +kernel
theorem dX6_judged_35 : decode cX6_judged 35 = .ok (.invokevirtual 122, 3) := by decide +kernel
theorem dX6_judged_38 : decode cX6_judged 38 = .ok (.istore 4, 2) := by decide +kernel
theorem dX6_judged_40 : decode cX6_judged 40 = .ok (.bipush 100, 2) := by decide +kernel
theorem dX6_judged_42 : decode cX6_judged 42 = .ok (.iload 4, 2) := by decide +kernel
theorem dX6_judged_44 : decode cX6_judged 44 = .ok (.imul, 1) := by decide +kernel
theorem dX6_judged_45 : decode cX6_judged 45 = .ok (.aload_n 0, 1) := by decide +kernel
theorem dX6_judged_46 : decode cX6_judged 46 = .ok (.getfield 7, 3) := by decide +kernel
theorem dX6_judged_49 : decode cX6_judged 49 = .ok (.iconst 4, 1) := by decide +kernel
theorem dX6_judged_50 : decode cX6_judged 50 = .ok (.iaload, 1) := by decide +kernel
theorem dX6_judged_51 : decode cX6_judged 51 = .ok (.iload_n 3, 1) := by decide +kernel
theorem dX6_judged_52 : decode cX6_judged 52 = .ok (.imul, 1) := by decide +kernel
theorem dX6_judged_53 : decode cX6_judged 53 = .ok (.if_icmp .lt 8, 3) := by decide +kernel
theorem dX6_judged_56 : decode cX6_judged 56 = .ok (.iload 4, 2) := by decide +kernel
theorem dX6_judged_58 : decode cX6_judged 58 = .ok (.ifCond .ne 7, 3) := by decide +kernel
theorem dX6_judged_61 : decode cX6_judged 61 = .ok (.iconst 1, 1) := by decide +kernel
theorem dX6_judged_62 : decode cX6_judged 62 = .ok (.goto 4, 3) := by decide +kernel
theorem dX6_judged_65 : decode cX6_judged 65 = .ok (.iconst 2, 1) := by decide +kernel
theorem dX6_judged_66 : decode cX6_judged 66 = .ok (.ireturn, 1) := by decide +kernel
set_option maxRecDepth 20000 in
theorem ggX6_gain_X6_isUser : GoodIn wsX6_gain wsX6_isUser := goodIn_r _ [5, 6, 7, 8, 4, 9, 65, 66, 67, 68, 69, 70, 71, 72, 73, 74, 75, 76] (by decide +kernel) (by decide +kernel)
set_option maxRecDepth 20000 in
theorem gX6_gain_X6_isUser : GoodIn wsX6_gain (wsV RX6 64 RX6 yX6_isUser wsX6_isUser) := goodIn_app (goodIn_of _ (by decide +kernel)) ggX6_gain_X6_isUser
set_option maxRecDepth 20000 in
theorem ggX6_gain_X6_isOlder : GoodIn wsX6_gain wsX6_isOlder := goodIn_r _ [13, 6, 65, 66, 67, 68, 69, 70, 71, 72, 73, 74, 75, 76] (by decide +kernel) (by decide +kernel)
set_option maxRecDepth 20000 in
theorem gX6_gain_X6_isOlder : GoodIn wsX6_gain (wsV RX6 73 RX6 yX6_isOlder wsX6_isOlder) := goodIn_app (goodIn_of _ (by decide +kernel)) ggX6_gain_X6_isOlder
set_option maxRecDepth 20000 in
theorem ggX6_gain_X6_gainOf : GoodIn wsX6_gain wsX6_gainOf := goodIn_r _ [17, 18, 6, 19, 20, 21, 4, 22, 23, 24, 25, 26, 27, 28, 29, 30, 31, 32, 33, 34, 35, 36, 37, 38, 39, 7, 8, 9, 40, 41, 42, 43, 44, 45, 46, 47, 48, 49, 50, 51, 52, 53, 54, 55, 56, 57, 58, 59, 60, 10, 11, 12, 13, 61, 62, 63, 64, 65, 66, 67, 68, 69, 70, 71, 72, 73, 74, 75, 76] (by decide +kernel) (by decide +kernel)
set_option maxRecDepth 20000 in
theorem gX6_gain_X6_gainOf : GoodIn wsX6_gain (wsV RX6 122 RX6 yX6_gainOf wsX6_gainOf) := goodIn_app (goodIn_of _ (by decide +kernel)) ggX6_gain_X6_gainOf
theorem dX6_gain_0 : decode cX6_gain 0 = .ok (.aload_n 0, 1) := by decide +kernel
theorem dX6_gain_1 : decode cX6_gain 1 = .ok (.iload_n 1, 1) := by decide +kernel
theorem dX6_gain_2 : decode cX6_gain 2 = .ok (.invokevirtual 64, 3) := by decide +kernel
theorem dX6_gain_5 : decode cX6_gain 5 = .ok (.ifCond .eq 11, 3) := by decide +kernel
theorem dX6_gain_8 : decode cX6_gain 8 = .ok (.aload_n 0, 1) := by decide +kernel
theorem dX6_gain_9 : decode cX6_gain 9 = .ok (.iload_n 2, 1) := by decide +kernel
theorem dX6_gain_10 : decode cX6_gain 10 = .ok (.invokevirtual 64, 3) := by decide +kernel
theorem dX6_gain_13 : decode cX6_gain 13 = .ok (.ifCond .ne 6, 3) := by decide +kernel
theorem dX6_gain_16 : decode cX6_gain 16 = .ok (.bipush (-101), 2) := by decide +kernel
theorem dX6_gain_18 : decode cX6_gain 18 = .ok (.ireturn, 1) := by decide +kernel
theorem dX6_gain_19 : decode cX6_gain 19 = .ok (.aload_n 0, 1) := by decide +kernel
theorem dX6_gain_20 : decode cX6_gain 20 = .ok (.iload_n 1, 1) := by decide +kernel
theorem dX6_gain_21 : decode cX6_gain 21 = .ok (.iload_n 2, 1) := by decide +kernel
theorem dX6_gain_22 : decode cX6_gain 22 = .ok (.invokevirtual 73, 3) := by decide +kernel
theorem dX6_gain_25 : decode cX6_gain 25 = .ok (.ifCond .eq 12, 3) := by decide +kernel
theorem dX6_gain_28 : decode cX6_gain 28 = .ok (.aload_n 0, 1) := by decide +kernel
theorem dX6_gain_29 : decode cX6_gain 29 = .ok (.iload_n 1, 1) := by decide +kernel
theorem dX6_gain_30 : decode cX6_gain 30 = .ok (.iload_n 2, 1) := by decide +kernel
theorem dX6_gain_31 : decode cX6_gain 31 = .ok (.invokevirtual 122, 3) := by decide +kernel
theorem dX6_gain_34 : decode cX6_gain 34 = .ok (.goto 5, 3) := by decide +kernel
theorem dX6_gain_37 : decode cX6_gain 37 = .ok (.bipush (-103), 2) := by decide +kernel
theorem dX6_gain_39 : decode cX6_gain 39 = .ok (.ireturn, 1) := by decide +kernel
set_option maxRecDepth 20000 in
theorem ggX6_complaint_X6_isUser : GoodIn wsX6_complaint wsX6_isUser := goodIn_r _ [5, 6, 7, 8, 4, 9, 69, 70, 71, 72, 73, 74, 75, 76, 77, 78, 79, 80] (by decide +kernel) (by decide +kernel)
set_option maxRecDepth 20000 in
theorem gX6_complaint_X6_isUser : GoodIn wsX6_complaint (wsV RX6 64 RX6 yX6_isUser wsX6_isUser) := goodIn_app (goodIn_of _ (by decide +kernel)) ggX6_complaint_X6_isUser
set_option maxRecDepth 20000 in
theorem ggX6_complaint_X6_isOlder : GoodIn wsX6_complaint wsX6_isOlder := goodIn_r _ [13, 6, 69, 70, 71, 72, 73, 74, 75, 76, 77, 78, 79, 80] (by decide +kernel) (by decide +kernel)
set_option maxRecDepth 20000 in
theorem gX6_complaint_X6_isOlder : GoodIn wsX6_complaint (wsV RX6 73 RX6 yX6_isOlder wsX6_isOlder) := goodIn_app (goodIn_of _ (by decide +kernel)) ggX6_complaint_X6_isOlder
set_option maxRecDepth 20000 in
theorem ggX6_complaint_X6_judged : GoodIn wsX6_complaint wsX6_judged := goodIn_r _ [17, 18, 19, 6, 20, 21, 22, 4, 23, 24, 25, 26, 27, 28, 29, 30, 31, 32, 33, 34, 35, 36, 37, 38, 39, 7, 8, 9, 40, 41, 42, 43, 44, 45, 46, 47, 48, 49, 50, 51, 52, 53, 54, 55, 56, 57, 58, 59, 60, 10, 11, 12, 13, 61, 62, 63, 64, 65, 66, 67, 68, 69, 70, 71, 72, 73, 74, 75, 76, 77, 78, 79, 80] (by decide +kernel) (by decide +kernel)
set_option maxRecDepth 20000 in
theorem gX6_complaint_X6_judged : GoodIn wsX6_complaint (wsV RX6 125 RX6 yX6_judged wsX6_judged) := goodIn_app (goodIn_of _ (by decide +kernel)) ggX6_complaint_X6_judged
theorem dX6_complaint_0 : decode cX6_complaint 0 = .ok (.aload_n 0, 1) := by decide +kernel
theorem dX6_complaint_1 : decode cX6_complaint 1 = .ok (.iload_n 1, 1) := by decide +kernel
theorem dX6_complaint_2 : decode cX6_complaint 2 = .ok (.invokevirtual 64, 3) := by decide +kernel
theorem dX6_complaint_5 : decode cX6_complaint 5 = .ok (.ifCond .eq 11, 3) := by decide +kernel
theorem dX6_complaint_8 : decode cX6_complaint 8 = .ok (.aload_n 0, 1) := by decide +kernel
theorem dX6_complaint_9 : decode cX6_complaint 9 = .ok (.iload_n 2, 1) := by decide +kernel
theorem dX6_complaint_10 : decode cX6_complaint 10 = .ok (.invokevirtual 64, 3) := by decide +kernel
theorem dX6_complaint_13 : decode cX6_complaint 13 = .ok (.ifCond .ne 6, 3) := by decide +kernel
theorem dX6_complaint_16 : decode cX6_complaint 16 = .ok (.bipush (-101), 2) := by decide +kernel
theorem dX6_complaint_18 : decode cX6_complaint 18 = .ok (.ireturn, 1) := by decide +kernel
theorem dX6_complaint_19 : decode cX6_complaint 19 = .ok (.aload_n 0, 1) := by decide +kernel
theorem dX6_complaint_20 : decode cX6_complaint 20 = .ok (.iload_n 1, 1) := by decide +kernel
theorem dX6_complaint_21 : decode cX6_complaint 21 = .ok (.iload_n 2, 1) := by decide +kernel
theorem dX6_complaint_22 : decode cX6_complaint 22 = .ok (.invokevirtual 73, 3) := by decide +kernel
theorem dX6_complaint_25 : decode cX6_complaint 25 = .ok (.ifCond .eq 12, 3) := by decide +kernel
theorem dX6_complaint_28 : decode cX6_complaint 28 = .ok (.aload_n 0, 1) := by decide +kernel
theorem dX6_complaint_29 : decode cX6_complaint 29 = .ok (.iload_n 1, 1) := by decide +kernel
theorem dX6_complaint_30 : decode cX6_complaint 30 = .ok (.iload_n 2, 1) := by decide +kernel
theorem dX6_complaint_31 : decode cX6_complaint 31 = .ok (.invokevirtual 125, 3) := by decide +kernel
theorem dX6_complaint_34 : decode cX6_complaint 34 = .ok (.goto 5, 3) := by decide +kernel
theorem dX6_complaint_37 : decode cX6_complaint 37 = .ok (.bipush (-103), 2) := by decide +kernel
theorem dX6_complaint_39 : decode cX6_complaint 39 = .ok (.ireturn, 1) := by decide +kernel
set_option maxRecDepth 20000 in
theorem ggX6_settle_X6_ranked : GoodIn wsX6_settle wsX6_ranked := goodIn_r _ [6, 1, 7, 8, 9, 5, 10, 65, 66, 67, 68, 69, 70, 71, 72, 73, 74, 75, 76] (by decide +kernel) (by decide +kernel)
set_option maxRecDepth 20000 in
theorem gX6_settle_X6_ranked : GoodIn wsX6_settle (wsV RX6 76 RX6 yX6_ranked wsX6_ranked) := goodIn_app (goodIn_of _ (by decide +kernel)) ggX6_settle_X6_ranked
set_option maxRecDepth 20000 in
theorem ggX6_settle_X6_judged : GoodIn wsX6_settle wsX6_judged := goodIn_r _ [14, 15, 16, 1, 17, 18, 19, 5, 20, 21, 22, 23, 24, 25, 26, 27, 28, 29, 30, 31, 32, 33, 34, 35, 36, 37, 38, 39, 40, 41, 42, 43, 44, 45, 46, 47, 48, 49, 50, 51, 52, 53, 54, 55, 56, 2, 3, 4, 6, 7, 8, 9, 10, 57, 58, 59, 60, 61, 62, 63, 64, 65, 66, 67, 68, 69, 70, 71, 72, 73, 74, 75, 76] (by decide +kernel) (by decide +kernel)
set_option maxRecDepth 20000 in
theorem gX6_settle_X6_judged : GoodIn wsX6_settle (wsV RX6 125 RX6 yX6_judged wsX6_judged) := goodIn_app (goodIn_of _ (by decide +kernel)) ggX6_settle_X6_judged
theorem dX6_settle_0 : decode cX6_settle 0 = .ok (.iconst 0, 1) := by decide +kernel
theorem dX6_settle_1 : decode cX6_settle 1 = .ok (.istore_n 1, 1) := by decide +kernel
theorem dX6_settle_2 : decode cX6_settle 2 = .ok (.iconst 0, 1) := by decide +kernel
theorem dX6_settle_3 : decode cX6_settle 3 = .ok (.istore_n 2, 1) := by decide +kernel
theorem dX6_settle_4 : decode cX6_settle 4 = .ok (.iload_n 2, 1) := by decide +kernel
theorem dX6_settle_5 : decode cX6_settle 5 = .ok (.aload_n 0, 1) := by decide +kernel
theorem dX6_settle_6 : decode cX6_settle 6 = .ok (.getfield 7, 3) := by decide +kernel
theorem dX6_settle_9 : decode cX6_settle 9 = .ok (.iconst 2, 1) := by decide +kernel
theorem dX6_settle_10 : decode cX6_settle 10 = .ok (.iaload, 1) := by decide +kernel
theorem dX6_settle_11 : decode cX6_settle 11 = .ok (.if_icmp .ge 66, 3) := by decide +kernel
theorem dX6_settle_14 : decode cX6_settle 14 = .ok (.aload_n 0, 1) := by decide +kernel
theorem dX6_settle_15 : decode cX6_settle 15 = .ok (.getfield 7, 3) := by decide +kernel
theorem dX6_settle_18 : decode cX6_settle 18 = .ok (.iconst 2, 1) := by decide +kernel
theorem dX6_settle_19 : decode cX6_settle 19 = .ok (.iaload, 1) := by decide +kernel
theorem dX6_settle_20 : decode cX6_settle 20 = .ok (.iconst 1, 1) := by decide +kernel
theorem dX6_settle_21 : decode cX6_settle 21 = .ok (.isub, 1) := by decide +kernel
theorem dX6_settle_22 : decode cX6_settle 22 = .ok (.istore_n 3, 1) := by decide +kernel
theorem dX6_settle_23 : decode cX6_settle 23 = .ok (.iload_n 3, 1) := by decide +kernel
theorem dX6_settle_24 : decode cX6_settle 24 = .ok (.iload_n 2, 1) := by decide +kernel
theorem dX6_settle_25 : decode cX6_settle 25 = .ok (.if_icmp .le 46, 3) := by decide +kernel
theorem dX6_settle_28 : decode cX6_settle 28 = .ok (.aload_n 0, 1) := by decide +kernel
theorem dX6_settle_29 : decode cX6_settle 29 = .ok (.iload_n 3, 1) := by decide +kernel
theorem dX6_settle_30 : decode cX6_settle 30 = .ok (.invokevirtual 76, 3) := by decide +kernel
theorem dX6_settle_33 : decode cX6_settle 33 = .ok (.istore 4, 2) := by decide +kernel
theorem dX6_settle_35 : decode cX6_settle 35 = .ok (.aload_n 0, 1) := by decide +kernel
theorem dX6_settle_36 : decode cX6_settle 36 = .ok (.aload_n 0, 1) := by decide +kernel
theorem dX6_settle_37 : decode cX6_settle 37 = .ok (.iload_n 2, 1) := by decide +kernel
theorem dX6_settle_38 : decode cX6_settle 38 = .ok (.invokevirtual 76, 3) := by decide +kernel
theorem dX6_settle_41 : decode cX6_settle 41 = .ok (.iload 4, 2) := by decide +kernel
theorem dX6_settle_43 : decode cX6_settle 43 = .ok (.invokevirtual 125, 3) := by decide +kernel
theorem dX6_settle_46 : decode cX6_settle 46 = .ok (.iconst 2, 1) := by decide +kernel
theorem dX6_settle_47 : decode cX6_settle 47 = .ok (.if_icmp .ne 18, 3) := by decide +kernel
theorem dX6_settle_50 : decode cX6_settle 50 = .ok (.aload_n 0, 1) := by decide +kernel
theorem dX6_settle_51 : decode cX6_settle 51 = .ok (.getfield 7, 3) := by decide +kernel
theorem dX6_settle_54 : decode cX6_settle 54 = .ok (.sipush 202, 3) := by decide +kernel
theorem dX6_settle_57 : decode cX6_settle 57 = .ok (.iload 4, 2) := by decide +kernel
theorem dX6_settle_59 : decode cX6_settle 59 = .ok (.iadd, 1) := by decide +kernel
theorem dX6_settle_60 : decode cX6_settle 60 = .ok (.iconst 1, 1) := by decide +kernel
theorem dX6_settle_61 : decode cX6_settle 61 = .ok (.iastore, 1) := by decide +kernel
theorem dX6_settle_62 : decode cX6_settle 62 = .ok (.iinc 1 1, 3) := by decide +kernel
theorem dX6_settle_65 : decode cX6_settle 65 = .ok (.iinc 3 (-1), 3) := by decide +kernel
theorem dX6_settle_68 : decode cX6_settle 68 = .ok (.goto (-45), 3) := by decide +kernel
theorem dX6_settle_71 : decode cX6_settle 71 = .ok (.iinc 2 1, 3) := by decide +kernel
theorem dX6_settle_74 : decode cX6_settle 74 = .ok (.goto (-70), 3) := by decide +kernel
theorem dX6_settle_77 : decode cX6_settle 77 = .ok (.iload_n 1, 1) := by decide +kernel
theorem dX6_settle_78 : decode cX6_settle 78 = .ok (.ireturn, 1) := by decide +kernel
set_option maxRecDepth 20000 in
theorem ggX6_isShut_X6_isUser : GoodIn wsX6_isShut wsX6_isUser := goodIn_r _ [6, 1, 7, 8, 5, 9, 10, 11, 12, 13, 14, 15, 16, 17, 18, 19, 20, 21] (by decide +kernel) (by decide +kernel)
set_option maxRecDepth 20000 in
theorem gX6_isShut_X6_isUser : GoodIn wsX6_isShut (wsV RX6 64 RX6 yX6_isUser wsX6_isUser) := goodIn_app (goodIn_of _ (by decide +kernel)) ggX6_isShut_X6_isUser
theorem dX6_isShut_0 : decode cX6_isShut 0 = .ok (.aload_n 0, 1) := by decide +kernel
theorem dX6_isShut_1 : decode cX6_isShut 1 = .ok (.iload_n 1, 1) := by decide +kernel
theorem dX6_isShut_2 : decode cX6_isShut 2 = .ok (.invokevirtual 64, 3) := by decide +kernel
theorem dX6_isShut_5 : decode cX6_isShut 5 = .ok (.ifCond .eq 16, 3) := by decide +kernel
theorem dX6_isShut_8 : decode cX6_isShut 8 = .ok (.aload_n 0, 1) := by decide +kernel
theorem dX6_isShut_9 : decode cX6_isShut 9 = .ok (.getfield 7, 3) := by decide +kernel
theorem dX6_isShut_12 : decode cX6_isShut 12 = .ok (.sipush 202, 3) := by decide +kernel
theorem dX6_isShut_15 : decode cX6_isShut 15 = .ok (.iload_n 1, 1) := by decide +kernel
theorem dX6_isShut_16 : decode cX6_isShut 16 = .ok (.iadd, 1) := by decide +kernel
theorem dX6_isShut_17 : decode cX6_isShut 17 = .ok (.iaload, 1) := by decide +kernel
theorem dX6_isShut_18 : decode cX6_isShut 18 = .ok (.goto 5, 3) := by decide +kernel
theorem dX6_isShut_21 : decode cX6_isShut 21 = .ok (.bipush (-101), 2) := by decide +kernel
theorem dX6_isShut_23 : decode cX6_isShut 23 = .ok (.ireturn, 1) := by decide +kernel
set_option maxRecDepth 20000 in
theorem ggX6_append_X6_in : GoodIn wsX6_append wsX6_in := goodIn_r _ [6] (by decide +kernel) (by decide +kernel)
set_option maxRecDepth 20000 in
theorem gX6_append_X6_in : GoodIn wsX6_append (va_wsS RX6 41 yX6_in wsX6_in) := goodIn_app (goodIn_of _ (by decide +kernel)) ggX6_append_X6_in
theorem dX6_append_0 : decode cX6_append 0 = .ok (.iload_n 1, 1) := by decide +kernel
theorem dX6_append_1 : decode cX6_append 1 = .ok (.iconst 0, 1) := by decide +kernel
theorem dX6_append_2 : decode cX6_append 2 = .ok (.bipush 127, 2) := by decide +kernel
theorem dX6_append_4 : decode cX6_append 4 = .ok (.invokestatic 41, 3) := by decide +kernel
theorem dX6_append_7 : decode cX6_append 7 = .ok (.ifCond .ne 6, 3) := by decide +kernel
theorem dX6_append_10 : decode cX6_append 10 = .ok (.bipush (-102), 2) := by decide +kernel
theorem dX6_append_12 : decode cX6_append 12 = .ok (.ireturn, 1) := by decide +kernel
theorem dX6_append_13 : decode cX6_append 13 = .ok (.aload_n 0, 1) := by decide +kernel
theorem dX6_append_14 : decode cX6_append 14 = .ok (.getfield 128, 3) := by decide +kernel
theorem dX6_append_17 : decode cX6_append 17 = .ok (.bipush 100, 2) := by decide +kernel
theorem dX6_append_19 : decode cX6_append 19 = .ok (.if_icmp .ne 6, 3) := by decide +kernel
theorem dX6_append_22 : decode cX6_append 22 = .ok (.bipush (-104), 2) := by decide +kernel
theorem dX6_append_24 : decode cX6_append 24 = .ok (.ireturn, 1) := by decide +kernel
theorem dX6_append_25 : decode cX6_append 25 = .ok (.aload_n 0, 1) := by decide +kernel
theorem dX6_append_26 : decode cX6_append 26 = .ok (.getfield 23, 3) := by decide +kernel
theorem dX6_append_29 : decode cX6_append 29 = .ok (.aload_n 0, 1) := by decide +kernel
theorem dX6_append_30 : decode cX6_append 30 = .ok (.getfield 128, 3) := by decide +kernel
theorem dX6_append_33 : decode cX6_append 33 = .ok (.iload_n 1, 1) := by decide +kernel
theorem dX6_append_34 : decode cX6_append 34 = .ok (.iastore, 1) := by decide +kernel
theorem dX6_append_35 : decode cX6_append 35 = .ok (.aload_n 0, 1) := by decide +kernel
theorem dX6_append_36 : decode cX6_append 36 = .ok (.dup, 1) := by decide +kernel
theorem dX6_append_37 : decode cX6_append 37 = .ok (.getfield 128, 3) := by decide +kernel
theorem dX6_append_40 : decode cX6_append 40 = .ok (.iconst 1, 1) := by decide +kernel
theorem dX6_append_41 : decode cX6_append 41 = .ok (.iadd, 1) := by decide +kernel
theorem dX6_append_42 : decode cX6_append 42 = .ok (.putfield 128, 3) := by decide +kernel
theorem dX6_append_45 : decode cX6_append 45 = .ok (.aload_n 0, 1) := by decide +kernel
theorem dX6_append_46 : decode cX6_append 46 = .ok (.getfield 128, 3) := by decide +kernel
theorem dX6_append_49 : decode cX6_append 49 = .ok (.ireturn, 1) := by decide +kernel
theorem dX6_clearText_0 : decode cX6_clearText 0 = .ok (.aload_n 0, 1) := by decide +kernel
theorem dX6_clearText_1 : decode cX6_clearText 1 = .ok (.getfield 128, 3) := by decide +kernel
theorem dX6_clearText_4 : decode cX6_clearText 4 = .ok (.istore_n 1, 1) := by decide +kernel
theorem dX6_clearText_5 : decode cX6_clearText 5 = .ok (.aload_n 0, 1) := by decide +kernel
theorem dX6_clearText_6 : decode cX6_clearText 6 = .ok (.iconst 0, 1) := by decide +kernel
theorem dX6_clearText_7 : decode cX6_clearText 7 = .ok (.putfield 128, 3) := by decide +kernel
theorem dX6_clearText_10 : decode cX6_clearText 10 = .ok (.iload_n 1, 1) := by decide +kernel
theorem dX6_clearText_11 : decode cX6_clearText 11 = .ok (.ireturn, 1) := by decide +kernel
theorem dX6_here_0 : decode cX6_here 0 = .ok (.aload_n 0, 1) := by decide +kernel
theorem dX6_here_1 : decode cX6_here 1 = .ok (.getfield 132, 3) := by decide +kernel
theorem dX6_here_4 : decode cX6_here 4 = .ok (.aload_n 0, 1) := by decide +kernel
theorem dX6_here_5 : decode cX6_here 5 = .ok (.getfield 128, 3) := by decide +kernel
theorem dX6_here_8 : decode cX6_here 8 = .ok (.if_icmp .ge 15, 3) := by decide +kernel
theorem dX6_here_11 : decode cX6_here 11 = .ok (.aload_n 0, 1) := by decide +kernel
theorem dX6_here_12 : decode cX6_here 12 = .ok (.getfield 23, 3) := by decide +kernel
theorem dX6_here_15 : decode cX6_here 15 = .ok (.aload_n 0, 1) := by decide +kernel
theorem dX6_here_16 : decode cX6_here 16 = .ok (.getfield 132, 3) := by decide +kernel
theorem dX6_here_19 : decode cX6_here 19 = .ok (.iaload, 1) := by decide +kernel
theorem dX6_here_20 : decode cX6_here 20 = .ok (.goto 4, 3) := by decide +kernel
theorem dX6_here_23 : decode cX6_here 23 = .ok (.iconst (-1), 1) := by decide +kernel
theorem dX6_here_24 : decode cX6_here 24 = .ok (.ireturn, 1) := by decide +kernel
set_option maxRecDepth 20000 in
theorem ggX6_takes_X6_here : GoodIn wsX6_takes wsX6_here := goodIn_r _ [6, 1, 7, 8, 9, 10, 11, 12, 13, 14, 15, 16, 17, 18, 19, 20] (by decide +kernel) (by decide +kernel)
set_option maxRecDepth 20000 in
theorem gX6_takes_X6_here : GoodIn wsX6_takes (wsV RX6 135 RX6 yX6_here wsX6_here) := goodIn_app (goodIn_of _ (by decide +kernel)) ggX6_takes_X6_here
theorem dX6_takes_0 : decode cX6_takes 0 = .ok (.aload_n 0, 1) := by decide +kernel
theorem dX6_takes_1 : decode cX6_takes 1 = .ok (.invokevirtual 135, 3) := by decide +kernel
theorem dX6_takes_4 : decode cX6_takes 4 = .ok (.iload_n 1, 1) := by decide +kernel
theorem dX6_takes_5 : decode cX6_takes 5 = .ok (.if_icmp .ne 7, 3) := by decide +kernel
theorem dX6_takes_8 : decode cX6_takes 8 = .ok (.iconst 1, 1) := by decide +kernel
theorem dX6_takes_9 : decode cX6_takes 9 = .ok (.goto 4, 3) := by decide +kernel
theorem dX6_takes_12 : decode cX6_takes 12 = .ok (.iconst 0, 1) := by decide +kernel
theorem dX6_takes_13 : decode cX6_takes 13 = .ok (.istore_n 2, 1) := by decide +kernel
theorem dX6_takes_14 : decode cX6_takes 14 = .ok (.aload_n 0, 1) := by decide +kernel
theorem dX6_takes_15 : decode cX6_takes 15 = .ok (.dup, 1) := by decide +kernel
theorem dX6_takes_16 : decode cX6_takes 16 = .ok (.getfield 132, 3) := by decide +kernel
theorem dX6_takes_19 : decode cX6_takes 19 = .ok (.iload_n 2, 1) := by decide +kernel
theorem dX6_takes_20 : decode cX6_takes 20 = .ok (.ifCond .eq 7, 3) := by decide +kernel
theorem dX6_takes_23 : decode cX6_takes 23 = .ok (.iconst 1, 1) := by decide +kernel
theorem dX6_takes_24 : decode cX6_takes 24 = .ok (.goto 4, 3) := by decide +kernel
theorem dX6_takes_27 : decode cX6_takes 27 = .ok (.iconst 0, 1) := by decide +kernel
theorem dX6_takes_28 : decode cX6_takes 28 = .ok (.iadd, 1) := by decide +kernel
theorem dX6_takes_29 : decode cX6_takes 29 = .ok (.putfield 132, 3) := by decide +kernel
theorem dX6_takes_32 : decode cX6_takes 32 = .ok (.iload_n 2, 1) := by decide +kernel
theorem dX6_takes_33 : decode cX6_takes 33 = .ok (.ireturn, 1) := by decide +kernel
set_option maxRecDepth 20000 in
theorem ggX6_number_X6_here : GoodIn wsX6_number wsX6_here := goodIn_r _ [9, 1, 10, 3, 14, 15, 16, 17, 18, 19, 20, 21, 22, 23, 24, 25] (by decide +kernel) (by decide +kernel)
set_option maxRecDepth 20000 in
theorem gX6_number_X6_here : GoodIn wsX6_number (wsV RX6 135 RX6 yX6_here wsX6_here) := goodIn_app (goodIn_of _ (by decide +kernel)) ggX6_number_X6_here
set_option maxRecDepth 20000 in
theorem ggX6_number_X6_in : GoodIn wsX6_number wsX6_in := goodIn_r _ [13] (by decide +kernel) (by decide +kernel)
set_option maxRecDepth 20000 in
theorem gX6_number_X6_in : GoodIn wsX6_number (va_wsS RX6 41 yX6_in wsX6_in) := goodIn_app (goodIn_of _ (by decide +kernel)) ggX6_number_X6_in
theorem dX6_number_0 : decode cX6_number 0 = .ok (.aload_n 0, 1) := by decide +kernel
theorem dX6_number_1 : decode cX6_number 1 = .ok (.getfield 132, 3) := by decide +kernel
theorem dX6_number_4 : decode cX6_number 4 = .ok (.istore 4, 2) := by decide +kernel
theorem dX6_number_6 : decode cX6_number 6 = .ok (.iconst 0, 1) := by decide +kernel
theorem dX6_number_7 : decode cX6_number 7 = .ok (.istore 5, 2) := by decide +kernel
theorem dX6_number_9 : decode cX6_number 9 = .ok (.aload_n 0, 1) := by decide +kernel
theorem dX6_number_10 : decode cX6_number 10 = .ok (.invokevirtual 135, 3) := by decide +kernel
theorem dX6_number_13 : decode cX6_number 13 = .ok (.bipush 48, 2) := by decide +kernel
theorem dX6_number_15 : decode cX6_number 15 = .ok (.bipush 57, 2) := by decide +kernel
theorem dX6_number_17 : decode cX6_number 17 = .ok (.invokestatic 41, 3) := by decide +kernel
theorem dX6_number_20 : decode cX6_number 20 = .ok (.ifCond .eq 43, 3) := by decide +kernel
theorem dX6_number_23 : decode cX6_number 23 = .ok (.iload 5, 2) := by decide +kernel
theorem dX6_number_25 : decode cX6_number 25 = .ok (.ldc 138, 2) := by decide +kernel
theorem dX6_number_27 : decode cX6_number 27 = .ok (.if_icmp .ge 19, 3) := by decide +kernel
theorem dX6_number_30 : decode cX6_number 30 = .ok (.bipush 10, 2) := by decide +kernel
theorem dX6_number_32 : decode cX6_number 32 = .ok (.iload 5, 2) := by decide +kernel
theorem dX6_number_34 : decode cX6_number 34 = .ok (.imul, 1) := by decide +kernel
theorem dX6_number_35 : decode cX6_number 35 = .ok (.aload_n 0, 1) := by decide +kernel
theorem dX6_number_36 : decode cX6_number 36 = .ok (.invokevirtual 135, 3) := by decide +kernel
theorem dX6_number_39 : decode cX6_number 39 = .ok (.iadd, 1) := by decide +kernel
theorem dX6_number_40 : decode cX6_number 40 = .ok (.bipush 48, 2) := by decide +kernel
theorem dX6_number_42 : decode cX6_number 42 = .ok (.isub, 1) := by decide +kernel
theorem dX6_number_43 : decode cX6_number 43 = .ok (.goto 5, 3) := by decide +kernel
theorem dX6_number_46 : decode cX6_number 46 = .ok (.iload 5, 2) := by decide +kernel
theorem dX6_number_48 : decode cX6_number 48 = .ok (.istore 5, 2) := by decide +kernel
theorem dX6_number_50 : decode cX6_number 50 = .ok (.aload_n 0, 1) := by decide +kernel
theorem dX6_number_51 : decode cX6_number 51 = .ok (.dup, 1) := by decide +kernel
theorem dX6_number_52 : decode cX6_number 52 = .ok (.getfield 132, 3) := by decide +kernel
theorem dX6_number_55 : decode cX6_number 55 = .ok (.iconst 1, 1) := by decide +kernel
theorem dX6_number_56 : decode cX6_number 56 = .ok (.iadd, 1) := by decide +kernel
theorem dX6_number_57 : decode cX6_number 57 = .ok (.putfield 132, 3) := by decide +kernel
theorem dX6_number_60 : decode cX6_number 60 = .ok (.goto (-51), 3) := by decide +kernel
theorem dX6_number_63 : decode cX6_number 63 = .ok (.aload_n 0, 1) := by decide +kernel
theorem dX6_number_64 : decode cX6_number 64 = .ok (.getfield 132, 3) := by decide +kernel
theorem dX6_number_67 : decode cX6_number 67 = .ok (.iload 4, 2) := by decide +kernel
theorem dX6_number_69 : decode cX6_number 69 = .ok (.if_icmp .le 40, 3) := by decide +kernel
theorem dX6_number_72 : decode cX6_number 72 = .ok (.aload_n 0, 1) := by decide +kernel
theorem dX6_number_73 : decode cX6_number 73 = .ok (.getfield 23, 3) := by decide +kernel
theorem dX6_number_76 : decode cX6_number 76 = .ok (.iload 4, 2) := by decide +kernel
theorem dX6_number_78 : decode cX6_number 78 = .ok (.iaload, 1) := by decide +kernel
theorem dX6_number_79 : decode cX6_number 79 = .ok (.bipush 48, 2) := by decide +kernel
theorem dX6_number_81 : decode cX6_number 81 = .ok (.if_icmp .ne 14, 3) := by decide +kernel
theorem dX6_number_84 : decode cX6_number 84 = .ok (.aload_n 0, 1) := by decide +kernel
theorem dX6_number_85 : decode cX6_number 85 = .ok (.getfield 132, 3) := by decide +kernel
theorem dX6_number_88 : decode cX6_number 88 = .ok (.iload 4, 2) := by decide +kernel
theorem dX6_number_90 : decode cX6_number 90 = .ok (.iconst 1, 1) := by decide +kernel
theorem dX6_number_91 : decode cX6_number 91 = .ok (.iadd, 1) := by decide +kernel
theorem dX6_number_92 : decode cX6_number 92 = .ok (.if_icmp .ne 17, 3) := by decide +kernel
theorem dX6_number_95 : decode cX6_number 95 = .ok (.iload 5, 2) := by decide +kernel
theorem dX6_number_97 : decode cX6_number 97 = .ok (.iload_n 2, 1) := by decide +kernel
theorem dX6_number_98 : decode cX6_number 98 = .ok (.iload_n 3, 1) := by decide +kernel
theorem dX6_number_99 : decode cX6_number 99 = .ok (.invokestatic 41, 3) := by decide +kernel
theorem dX6_number_102 : decode cX6_number 102 = .ok (.ifCond .eq 7, 3) := by decide +kernel
theorem dX6_number_105 : decode cX6_number 105 = .ok (.iconst 1, 1) := by decide +kernel
theorem dX6_number_106 : decode cX6_number 106 = .ok (.goto 4, 3) := by decide +kernel
theorem dX6_number_109 : decode cX6_number 109 = .ok (.iconst 0, 1) := by decide +kernel
theorem dX6_number_110 : decode cX6_number 110 = .ok (.istore 6, 2) := by decide +kernel
theorem dX6_number_112 : decode cX6_number 112 = .ok (.aload_n 0, 1) := by decide +kernel
theorem dX6_number_113 : decode cX6_number 113 = .ok (.iload 6, 2) := by decide +kernel
theorem dX6_number_115 : decode cX6_number 115 = .ok (.ifCond .eq 10, 3) := by decide +kernel
theorem dX6_number_118 : decode cX6_number 118 = .ok (.aload_n 0, 1) := by decide +kernel
theorem dX6_number_119 : decode cX6_number 119 = .ok (.getfield 132, 3) := by decide +kernel
theorem dX6_number_122 : decode cX6_number 122 = .ok (.goto 5, 3) := by decide +kernel
theorem dX6_number_125 : decode cX6_number 125 = .ok (.iload 4, 2) := by decide +kernel
theorem dX6_number_127 : decode cX6_number 127 = .ok (.putfield 132, 3) := by decide +kernel
theorem dX6_number_130 : decode cX6_number 130 = .ok (.aload_n 0, 1) := by decide +kernel
theorem dX6_number_131 : decode cX6_number 131 = .ok (.getfield 38, 3) := by decide +kernel
theorem dX6_number_134 : decode cX6_number 134 = .ok (.iload_n 1, 1) := by decide +kernel
theorem dX6_number_135 : decode cX6_number 135 = .ok (.iload 5, 2) := by decide +kernel
theorem dX6_number_137 : decode cX6_number 137 = .ok (.iastore, 1) := by decide +kernel
theorem dX6_number_138 : decode cX6_number 138 = .ok (.iload 6, 2) := by decide +kernel
theorem dX6_number_140 : decode cX6_number 140 = .ok (.ireturn, 1) := by decide +kernel
set_option maxRecDepth 20000 in
theorem ggX6_isDitchOrder_X6_number : GoodIn wsX6_isDitchOrder wsX6_number := goodIn_r _ [6, 7, 8, 9, 10, 11, 12, 13, 5, 14, 15, 16, 17, 18, 23, 24, 25, 26, 27, 28, 29, 30, 31, 32, 33, 34] (by decide +kernel) (by decide +kernel)
set_option maxRecDepth 20000 in
theorem gX6_isDitchOrder_X6_number : GoodIn wsX6_isDitchOrder (wsV RX6 139 RX6 yX6_number wsX6_number) := goodIn_app (goodIn_of _ (by decide +kernel)) ggX6_isDitchOrder_X6_number
set_option maxRecDepth 20000 in
theorem ggX6_isDitchOrder_X6_takes : GoodIn wsX6_isDitchOrder wsX6_takes := goodIn_r _ [22, 7, 11, 12, 13, 5, 14, 15, 9, 23, 24, 25, 26, 27, 28, 29, 30, 31, 32, 33, 34] (by decide +kernel) (by decide +kernel)
set_option maxRecDepth 20000 in
theorem gX6_isDitchOrder_X6_takes : GoodIn wsX6_isDitchOrder (wsV RX6 142 RX6 yX6_takes wsX6_takes) := goodIn_app (goodIn_of _ (by decide +kernel)) ggX6_isDitchOrder_X6_takes
theorem dX6_isDitchOrder_0 : decode cX6_isDitchOrder 0 = .ok (.aload_n 0, 1) := by decide +kernel
theorem dX6_isDitchOrder_1 : decode cX6_isDitchOrder 1 = .ok (.iconst 0, 1) := by decide +kernel
theorem dX6_isDitchOrder_2 : decode cX6_isDitchOrder 2 = .ok (.iconst 0, 1) := by decide +kernel
theorem dX6_isDitchOrder_3 : decode cX6_isDitchOrder 3 = .ok (.aload_n 0, 1) := by decide +kernel
theorem dX6_isDitchOrder_4 : decode cX6_isDitchOrder 4 = .ok (.getfield 7, 3) := by decide +kernel
theorem dX6_isDitchOrder_7 : decode cX6_isDitchOrder 7 = .ok (.iconst 1, 1) := by decide +kernel
theorem dX6_isDitchOrder_8 : decode cX6_isDitchOrder 8 = .ok (.iaload, 1) := by decide +kernel
theorem dX6_isDitchOrder_9 : decode cX6_isDitchOrder 9 = .ok (.iconst 1, 1) := by decide +kernel
theorem dX6_isDitchOrder_10 : decode cX6_isDitchOrder 10 = .ok (.isub, 1) := by decide +kernel
theorem dX6_isDitchOrder_11 : decode cX6_isDitchOrder 11 = .ok (.invokevirtual 139, 3) := by decide +kernel
theorem dX6_isDitchOrder_14 : decode cX6_isDitchOrder 14 = .ok (.ifCond .eq 28, 3) := by decide +kernel
theorem dX6_isDitchOrder_17 : decode cX6_isDitchOrder 17 = .ok (.aload_n 0, 1) := by decide +kernel
theorem dX6_isDitchOrder_18 : decode cX6_isDitchOrder 18 = .ok (.bipush 46, 2) := by decide +kernel
theorem dX6_isDitchOrder_20 : decode cX6_isDitchOrder 20 = .ok (.invokevirtual 142, 3) := by decide +kernel
theorem dX6_isDitchOrder_23 : decode cX6_isDitchOrder 23 = .ok (.ifCond .eq 19, 3) := by decide +kernel
theorem dX6_isDitchOrder_26 : decode cX6_isDitchOrder 26 = .ok (.aload_n 0, 1) := by decide +kernel
theorem dX6_isDitchOrder_27 : decode cX6_isDitchOrder 27 = .ok (.iconst 1, 1) := by decide +kernel
theorem dX6_isDitchOrder_28 : decode cX6_isDitchOrder 28 = .ok (.iconst 1, 1) := by decide +kernel
theorem dX6_isDitchOrder_29 : decode cX6_isDitchOrder 29 = .ok (.sipush 200, 3) := by decide +kernel
theorem dX6_isDitchOrder_32 : decode cX6_isDitchOrder 32 = .ok (.invokevirtual 139, 3) := by decide +kernel
theorem dX6_isDitchOrder_35 : decode cX6_isDitchOrder 35 = .ok (.ifCond .eq 7, 3) := by decide +kernel
theorem dX6_isDitchOrder_38 : decode cX6_isDitchOrder 38 = .ok (.iconst 1, 1) := by decide +kernel
theorem dX6_isDitchOrder_39 : decode cX6_isDitchOrder 39 = .ok (.goto 4, 3) := by decide +kernel
theorem dX6_isDitchOrder_42 : decode cX6_isDitchOrder 42 = .ok (.iconst 0, 1) := by decide +kernel
theorem dX6_isDitchOrder_43 : decode cX6_isDitchOrder 43 = .ok (.istore_n 1, 1) := by decide +kernel
theorem dX6_isDitchOrder_44 : decode cX6_isDitchOrder 44 = .ok (.iload_n 1, 1) := by decide +kernel
theorem dX6_isDitchOrder_45 : decode cX6_isDitchOrder 45 = .ok (.ifCond .eq 36, 3) := by decide +kernel
theorem dX6_isDitchOrder_48 : decode cX6_isDitchOrder 48 = .ok (.aload_n 0, 1) := by decide +kernel
theorem dX6_isDitchOrder_49 : decode cX6_isDitchOrder 49 = .ok (.bipush 46, 2) := by decide +kernel
theorem dX6_isDitchOrder_51 : decode cX6_isDitchOrder 51 = .ok (.invokevirtual 142, 3) := by decide +kernel
theorem dX6_isDitchOrder_54 : decode cX6_isDitchOrder 54 = .ok (.ifCond .eq 27, 3) := by decide +kernel
theorem dX6_isDitchOrder_57 : decode cX6_isDitchOrder 57 = .ok (.aload_n 0, 1) := by decide +kernel
theorem dX6_isDitchOrder_58 : decode cX6_isDitchOrder 58 = .ok (.iconst 2, 1) := by decide +kernel
theorem dX6_isDitchOrder_59 : decode cX6_isDitchOrder 59 = .ok (.iconst 0, 1) := by decide +kernel
theorem dX6_isDitchOrder_60 : decode cX6_isDitchOrder 60 = .ok (.bipush 50, 2) := by decide +kernel
theorem dX6_isDitchOrder_62 : decode cX6_isDitchOrder 62 = .ok (.invokevirtual 139, 3) := by decide +kernel
theorem dX6_isDitchOrder_65 : decode cX6_isDitchOrder 65 = .ok (.ifCond .eq 16, 3) := by decide +kernel
theorem dX6_isDitchOrder_68 : decode cX6_isDitchOrder 68 = .ok (.aload_n 0, 1) := by decide +kernel
theorem dX6_isDitchOrder_69 : decode cX6_isDitchOrder 69 = .ok (.bipush 59, 2) := by decide +kernel
theorem dX6_isDitchOrder_71 : decode cX6_isDitchOrder 71 = .ok (.invokevirtual 142, 3) := by decide +kernel
theorem dX6_isDitchOrder_74 : decode cX6_isDitchOrder 74 = .ok (.ifCond .eq 7, 3) := by decide +kernel
theorem dX6_isDitchOrder_77 : decode cX6_isDitchOrder 77 = .ok (.iconst 1, 1) := by decide +kernel
theorem dX6_isDitchOrder_78 : decode cX6_isDitchOrder 78 = .ok (.goto 4, 3) := by decide +kernel
theorem dX6_isDitchOrder_81 : decode cX6_isDitchOrder 81 = .ok (.iconst 0, 1) := by decide +kernel
theorem dX6_isDitchOrder_82 : decode cX6_isDitchOrder 82 = .ok (.ireturn, 1) := by decide +kernel
set_option maxRecDepth 20000 in
theorem ggX6_isUserOrder_X6_number : GoodIn wsX6_isUserOrder wsX6_number := goodIn_r _ [6, 7, 8, 9, 10, 11, 12, 13, 5, 14, 15, 16, 17, 18, 23, 24, 25, 26, 27, 28, 29, 30, 31, 32, 33, 34] (by decide +kernel) (by decide +kernel)
set_option maxRecDepth 20000 in
theorem gX6_isUserOrder_X6_number : GoodIn wsX6_isUserOrder (wsV RX6 139 RX6 yX6_number wsX6_number) := goodIn_app (goodIn_of _ (by decide +kernel)) ggX6_isUserOrder_X6_number
set_option maxRecDepth 20000 in
theorem ggX6_isUserOrder_X6_takes : GoodIn wsX6_isUserOrder wsX6_takes := goodIn_r _ [22, 7, 11, 12, 13, 5, 14, 15, 9, 23, 24, 25, 26, 27, 28, 29, 30, 31, 32, 33, 34] (by decide +kernel) (by decide +kernel)
set_option maxRecDepth 20000 in
theorem gX6_isUserOrder_X6_takes : GoodIn wsX6_isUserOrder (wsV RX6 142 RX6 yX6_takes wsX6_takes) := goodIn_app (goodIn_of _ (by decide +kernel)) ggX6_isUserOrder_X6_takes
theorem dX6_isUserOrder_0 : decode cX6_isUserOrder 0 = .ok (.aload_n 0, 1) := by decide +kernel
theorem dX6_isUserOrder_1 : decode cX6_isUserOrder 1 = .ok (.iconst 0, 1) := by decide +kernel
theorem dX6_isUserOrder_2 : decode cX6_isUserOrder 2 = .ok (.iconst 0, 1) := by decide +kernel
theorem dX6_isUserOrder_3 : decode cX6_isUserOrder 3 = .ok (.aload_n 0, 1) := by decide +kernel
theorem dX6_isUserOrder_4 : decode cX6_isUserOrder 4 = .ok (.getfield 7, 3) := by decide +kernel
theorem dX6_isUserOrder_7 : decode cX6_isUserOrder 7 = .ok (.iconst 1, 1) := by decide +kernel
theorem dX6_isUserOrder_8 : decode cX6_isUserOrder 8 = .ok (.iaload, 1) := by decide +kernel
theorem dX6_isUserOrder_9 : decode cX6_isUserOrder 9 = .ok (.iconst 1, 1) := by decide +kernel
theorem dX6_isUserOrder_10 : decode cX6_isUserOrder 10 = .ok (.isub, 1) := by decide +kernel
theorem dX6_isUserOrder_11 : decode cX6_isUserOrder 11 = .ok (.invokevirtual 139, 3) := by decide +kernel
theorem dX6_isUserOrder_14 : decode cX6_isUserOrder 14 = .ok (.ifCond .eq 30, 3) := by decide +kernel
theorem dX6_isUserOrder_17 : decode cX6_isUserOrder 17 = .ok (.aload_n 0, 1) := by decide +kernel
theorem dX6_isUserOrder_18 : decode cX6_isUserOrder 18 = .ok (.bipush 46, 2) := by decide +kernel
theorem dX6_isUserOrder_20 : decode cX6_isUserOrder 20 = .ok (.invokevirtual 142, 3) := by decide +kernel
theorem dX6_isUserOrder_23 : decode cX6_isUserOrder 23 = .ok (.ifCond .eq 21, 3) := by decide +kernel
theorem dX6_isUserOrder_26 : decode cX6_isUserOrder 26 = .ok (.aload_n 0, 1) := by decide +kernel
theorem dX6_isUserOrder_27 : decode cX6_isUserOrder 27 = .ok (.iconst 1, 1) := by decide +kernel
theorem dX6_isUserOrder_28 : decode cX6_isUserOrder 28 = .ok (.sipush 1800, 3) := by decide +kernel
theorem dX6_isUserOrder_31 : decode cX6_isUserOrder 31 = .ok (.sipush 2099, 3) := by decide +kernel
theorem dX6_isUserOrder_34 : decode cX6_isUserOrder 34 = .ok (.invokevirtual 139, 3) := by decide +kernel
theorem dX6_isUserOrder_37 : decode cX6_isUserOrder 37 = .ok (.ifCond .eq 7, 3) := by decide +kernel
theorem dX6_isUserOrder_40 : decode cX6_isUserOrder 40 = .ok (.iconst 1, 1) := by decide +kernel
theorem dX6_isUserOrder_41 : decode cX6_isUserOrder 41 = .ok (.goto 4, 3) := by decide +kernel
theorem dX6_isUserOrder_44 : decode cX6_isUserOrder 44 = .ok (.iconst 0, 1) := by decide +kernel
theorem dX6_isUserOrder_45 : decode cX6_isUserOrder 45 = .ok (.istore_n 1, 1) := by decide +kernel
theorem dX6_isUserOrder_46 : decode cX6_isUserOrder 46 = .ok (.iload_n 1, 1) := by decide +kernel
theorem dX6_isUserOrder_47 : decode cX6_isUserOrder 47 = .ok (.ifCond .eq 36, 3) := by decide +kernel
theorem dX6_isUserOrder_50 : decode cX6_isUserOrder 50 = .ok (.aload_n 0, 1) := by decide +kernel
theorem dX6_isUserOrder_51 : decode cX6_isUserOrder 51 = .ok (.bipush 46, 2) := by decide +kernel
theorem dX6_isUserOrder_53 : decode cX6_isUserOrder 53 = .ok (.invokevirtual 142, 3) := by decide +kernel
theorem dX6_isUserOrder_56 : decode cX6_isUserOrder 56 = .ok (.ifCond .eq 27, 3) := by decide +kernel
theorem dX6_isUserOrder_59 : decode cX6_isUserOrder 59 = .ok (.aload_n 0, 1) := by decide +kernel
theorem dX6_isUserOrder_60 : decode cX6_isUserOrder 60 = .ok (.iconst 2, 1) := by decide +kernel
theorem dX6_isUserOrder_61 : decode cX6_isUserOrder 61 = .ok (.iconst 0, 1) := by decide +kernel
theorem dX6_isUserOrder_62 : decode cX6_isUserOrder 62 = .ok (.bipush 60, 2) := by decide +kernel
theorem dX6_isUserOrder_64 : decode cX6_isUserOrder 64 = .ok (.invokevirtual 139, 3) := by decide +kernel
theorem dX6_isUserOrder_67 : decode cX6_isUserOrder 67 = .ok (.ifCond .eq 16, 3) := by decide +kernel
theorem dX6_isUserOrder_70 : decode cX6_isUserOrder 70 = .ok (.aload_n 0, 1) := by decide +kernel
theorem dX6_isUserOrder_71 : decode cX6_isUserOrder 71 = .ok (.bipush 59, 2) := by decide +kernel
theorem dX6_isUserOrder_73 : decode cX6_isUserOrder 73 = .ok (.invokevirtual 142, 3) := by decide +kernel
theorem dX6_isUserOrder_76 : decode cX6_isUserOrder 76 = .ok (.ifCond .eq 7, 3) := by decide +kernel
theorem dX6_isUserOrder_79 : decode cX6_isUserOrder 79 = .ok (.iconst 1, 1) := by decide +kernel
theorem dX6_isUserOrder_80 : decode cX6_isUserOrder 80 = .ok (.goto 4, 3) := by decide +kernel
theorem dX6_isUserOrder_83 : decode cX6_isUserOrder 83 = .ok (.iconst 0, 1) := by decide +kernel
theorem dX6_isUserOrder_84 : decode cX6_isUserOrder 84 = .ok (.ireturn, 1) := by decide +kernel
set_option maxRecDepth 20000 in
theorem ggX6_isSupplyOrder_X6_number : GoodIn wsX6_isSupplyOrder wsX6_number := goodIn_r _ [6, 7, 8, 9, 1, 10, 11, 12, 5, 13, 14, 15, 16, 17, 22, 23, 24, 25, 26, 27, 28, 29, 30, 31, 32, 33] (by decide +kernel) (by decide +kernel)
set_option maxRecDepth 20000 in
theorem gX6_isSupplyOrder_X6_number : GoodIn wsX6_isSupplyOrder (wsV RX6 139 RX6 yX6_number wsX6_number) := goodIn_app (goodIn_of _ (by decide +kernel)) ggX6_isSupplyOrder_X6_number
set_option maxRecDepth 20000 in
theorem ggX6_isSupplyOrder_X6_takes : GoodIn wsX6_isSupplyOrder wsX6_takes := goodIn_r _ [21, 7, 10, 11, 12, 5, 13, 14, 9, 22, 23, 24, 25, 26, 27, 28, 29, 30, 31, 32, 33] (by decide +kernel) (by decide +kernel)
set_option maxRecDepth 20000 in
theorem gX6_isSupplyOrder_X6_takes : GoodIn wsX6_isSupplyOrder (wsV RX6 142 RX6 yX6_takes wsX6_takes) := goodIn_app (goodIn_of _ (by decide +kernel)) ggX6_isSupplyOrder_X6_takes
theorem dX6_isSupplyOrder_0 : decode cX6_isSupplyOrder 0 = .ok (.aload_n 0, 1) := by decide +kernel
theorem dX6_isSupplyOrder_1 : decode cX6_isSupplyOrder 1 = .ok (.iconst 0, 1) := by decide +kernel
theorem dX6_isSupplyOrder_2 : decode cX6_isSupplyOrder 2 = .ok (.iconst 0, 1) := by decide +kernel
theorem dX6_isSupplyOrder_3 : decode cX6_isSupplyOrder 3 = .ok (.bipush 23, 2) := by decide +kernel
theorem dX6_isSupplyOrder_5 : decode cX6_isSupplyOrder 5 = .ok (.invokevirtual 139, 3) := by decide +kernel
theorem dX6_isSupplyOrder_8 : decode cX6_isSupplyOrder 8 = .ok (.ifCond .eq 34, 3) := by decide +kernel
theorem dX6_isSupplyOrder_11 : decode cX6_isSupplyOrder 11 = .ok (.aload_n 0, 1) := by decide +kernel
theorem dX6_isSupplyOrder_12 : decode cX6_isSupplyOrder 12 = .ok (.bipush 45, 2) := by decide +kernel
theorem dX6_isSupplyOrder_14 : decode cX6_isSupplyOrder 14 = .ok (.invokevirtual 142, 3) := by decide +kernel
theorem dX6_isSupplyOrder_17 : decode cX6_isSupplyOrder 17 = .ok (.ifCond .eq 25, 3) := by decide +kernel
theorem dX6_isSupplyOrder_20 : decode cX6_isSupplyOrder 20 = .ok (.aload_n 0, 1) := by decide +kernel
theorem dX6_isSupplyOrder_21 : decode cX6_isSupplyOrder 21 = .ok (.iconst 1, 1) := by decide +kernel
theorem dX6_isSupplyOrder_22 : decode cX6_isSupplyOrder 22 = .ok (.aload_n 0, 1) := by decide +kernel
theorem dX6_isSupplyOrder_23 : decode cX6_isSupplyOrder 23 = .ok (.getfield 38, 3) := by decide +kernel
theorem dX6_isSupplyOrder_26 : decode cX6_isSupplyOrder 26 = .ok (.iconst 0, 1) := by decide +kernel
theorem dX6_isSupplyOrder_27 : decode cX6_isSupplyOrder 27 = .ok (.iaload, 1) := by decide +kernel
theorem dX6_isSupplyOrder_28 : decode cX6_isSupplyOrder 28 = .ok (.iconst 1, 1) := by decide +kernel
theorem dX6_isSupplyOrder_29 : decode cX6_isSupplyOrder 29 = .ok (.iadd, 1) := by decide +kernel
theorem dX6_isSupplyOrder_30 : decode cX6_isSupplyOrder 30 = .ok (.bipush 24, 2) := by decide +kernel
theorem dX6_isSupplyOrder_32 : decode cX6_isSupplyOrder 32 = .ok (.invokevirtual 139, 3) := by decide +kernel
theorem dX6_isSupplyOrder_35 : decode cX6_isSupplyOrder 35 = .ok (.ifCond .eq 7, 3) := by decide +kernel
theorem dX6_isSupplyOrder_38 : decode cX6_isSupplyOrder 38 = .ok (.iconst 1, 1) := by decide +kernel
theorem dX6_isSupplyOrder_39 : decode cX6_isSupplyOrder 39 = .ok (.goto 4, 3) := by decide +kernel
theorem dX6_isSupplyOrder_42 : decode cX6_isSupplyOrder 42 = .ok (.iconst 0, 1) := by decide +kernel
theorem dX6_isSupplyOrder_43 : decode cX6_isSupplyOrder 43 = .ok (.istore_n 1, 1) := by decide +kernel
theorem dX6_isSupplyOrder_44 : decode cX6_isSupplyOrder 44 = .ok (.iload_n 1, 1) := by decide +kernel
theorem dX6_isSupplyOrder_45 : decode cX6_isSupplyOrder 45 = .ok (.ifCond .eq 37, 3) := by decide +kernel
theorem dX6_isSupplyOrder_48 : decode cX6_isSupplyOrder 48 = .ok (.aload_n 0, 1) := by decide +kernel
theorem dX6_isSupplyOrder_49 : decode cX6_isSupplyOrder 49 = .ok (.bipush 46, 2) := by decide +kernel
theorem dX6_isSupplyOrder_51 : decode cX6_isSupplyOrder 51 = .ok (.invokevirtual 142, 3) := by decide +kernel
theorem dX6_isSupplyOrder_54 : decode cX6_isSupplyOrder 54 = .ok (.ifCond .eq 28, 3) := by decide +kernel
theorem dX6_isSupplyOrder_57 : decode cX6_isSupplyOrder 57 = .ok (.aload_n 0, 1) := by decide +kernel
theorem dX6_isSupplyOrder_58 : decode cX6_isSupplyOrder 58 = .ok (.iconst 2, 1) := by decide +kernel
theorem dX6_isSupplyOrder_59 : decode cX6_isSupplyOrder 59 = .ok (.iconst 0, 1) := by decide +kernel
theorem dX6_isSupplyOrder_60 : decode cX6_isSupplyOrder 60 = .ok (.sipush 200, 3) := by decide +kernel
theorem dX6_isSupplyOrder_63 : decode cX6_isSupplyOrder 63 = .ok (.invokevirtual 139, 3) := by decide +kernel
theorem dX6_isSupplyOrder_66 : decode cX6_isSupplyOrder 66 = .ok (.ifCond .eq 16, 3) := by decide +kernel
theorem dX6_isSupplyOrder_69 : decode cX6_isSupplyOrder 69 = .ok (.aload_n 0, 1) := by decide +kernel
theorem dX6_isSupplyOrder_70 : decode cX6_isSupplyOrder 70 = .ok (.bipush 59, 2) := by decide +kernel
theorem dX6_isSupplyOrder_72 : decode cX6_isSupplyOrder 72 = .ok (.invokevirtual 142, 3) := by decide +kernel
theorem dX6_isSupplyOrder_75 : decode cX6_isSupplyOrder 75 = .ok (.ifCond .eq 7, 3) := by decide +kernel
theorem dX6_isSupplyOrder_78 : decode cX6_isSupplyOrder 78 = .ok (.iconst 1, 1) := by decide +kernel
theorem dX6_isSupplyOrder_79 : decode cX6_isSupplyOrder 79 = .ok (.goto 4, 3) := by decide +kernel
theorem dX6_isSupplyOrder_82 : decode cX6_isSupplyOrder 82 = .ok (.iconst 0, 1) := by decide +kernel
theorem dX6_isSupplyOrder_83 : decode cX6_isSupplyOrder 83 = .ok (.ireturn, 1) := by decide +kernel
set_option maxRecDepth 20000 in
theorem ggX6_isOrder_X6_here : GoodIn wsX6_isOrder wsX6_here := goodIn_r _ [8, 2, 9, 10, 51, 52, 53, 54, 55, 56, 57, 58, 59, 60, 61, 62] (by decide +kernel) (by decide +kernel)
set_option maxRecDepth 20000 in
theorem gX6_isOrder_X6_here : GoodIn wsX6_isOrder (wsV RX6 135 RX6 yX6_here wsX6_here) := goodIn_app (goodIn_of _ (by decide +kernel)) ggX6_isOrder_X6_here
set_option maxRecDepth 20000 in
theorem ggX6_isOrder_X6_isDitchOrder : GoodIn wsX6_isOrder wsX6_isDitchOrder := goodIn_r _ [14, 1, 15, 16, 17, 7, 18, 2, 19, 10, 3, 4, 5, 6, 8, 9, 20, 21, 22, 23, 24, 25, 26, 51, 52, 53, 54, 55, 56, 57, 58, 59, 60, 61, 62] (by decide +kernel) (by decide +kernel)
set_option maxRecDepth 20000 in
theorem gX6_isOrder_X6_isDitchOrder : GoodIn wsX6_isOrder (wsV RX6 145 RX6 yX6_isDitchOrder wsX6_isDitchOrder) := goodIn_app (goodIn_of _ (by decide +kernel)) ggX6_isOrder_X6_isDitchOrder
set_option maxRecDepth 20000 in
theorem ggX6_isOrder_X6_addsDitch : GoodIn wsX6_isOrder wsX6_addsDitch := goodIn_r _ [30, 1, 51, 52, 53, 54, 55, 56, 57, 58, 59, 60, 61, 62] (by decide +kernel) (by decide +kernel)
set_option maxRecDepth 20000 in
theorem gX6_isOrder_X6_addsDitch : GoodIn wsX6_isOrder (wsV RX6 53 RX6 yX6_addsDitch wsX6_addsDitch) := goodIn_app (goodIn_of _ (by decide +kernel)) ggX6_isOrder_X6_addsDitch
set_option maxRecDepth 20000 in
theorem ggX6_isOrder_X6_isUserOrder : GoodIn wsX6_isOrder wsX6_isUserOrder := goodIn_r _ [34, 1, 15, 16, 17, 7, 18, 2, 19, 10, 3, 4, 5, 6, 8, 9, 20, 21, 22, 23, 24, 25, 26, 51, 52, 53, 54, 55, 56, 57, 58, 59, 60, 61, 62] (by decide +kernel) (by decide +kernel)
set_option maxRecDepth 20000 in
theorem gX6_isOrder_X6_isUserOrder : GoodIn wsX6_isOrder (wsV RX6 148 RX6 yX6_isUserOrder wsX6_isUserOrder) := goodIn_app (goodIn_of _ (by decide +kernel)) ggX6_isOrder_X6_isUserOrder
set_option maxRecDepth 20000 in
theorem ggX6_isOrder_X6_addsUser : GoodIn wsX6_isOrder wsX6_addsUser := goodIn_r _ [38, 1, 51, 52, 53, 54, 55, 56, 57, 58, 59, 60, 61, 62] (by decide +kernel) (by decide +kernel)
set_option maxRecDepth 20000 in
theorem gX6_isOrder_X6_addsUser : GoodIn wsX6_isOrder (wsV RX6 61 RX6 yX6_addsUser wsX6_addsUser) := goodIn_app (goodIn_of _ (by decide +kernel)) ggX6_isOrder_X6_addsUser
set_option maxRecDepth 20000 in
theorem ggX6_isOrder_X6_number : GoodIn wsX6_isOrder wsX6_number := goodIn_r _ [18, 2, 19, 10, 3, 4, 5, 6, 7, 8, 9, 20, 21, 22, 51, 52, 53, 54, 55, 56, 57, 58, 59, 60, 61, 62] (by decide +kernel) (by decide +kernel)
set_option maxRecDepth 20000 in
theorem gX6_isOrder_X6_number : GoodIn wsX6_isOrder (wsV RX6 139 RX6 yX6_number wsX6_number) := goodIn_app (goodIn_of _ (by decide +kernel)) ggX6_isOrder_X6_number
set_option maxRecDepth 20000 in
theorem ggX6_isOrder_X6_takes : GoodIn wsX6_isOrder wsX6_takes := goodIn_r _ [26, 2, 4, 5, 6, 7, 8, 9, 10, 51, 52, 53, 54, 55, 56, 57, 58, 59, 60, 61, 62] (by decide +kernel) (by decide +kernel)
set_option maxRecDepth 20000 in
theorem gX6_isOrder_X6_takes : GoodIn wsX6_isOrder (wsV RX6 142 RX6 yX6_takes wsX6_takes) := goodIn_app (goodIn_of _ (by decide +kernel)) ggX6_isOrder_X6_takes
set_option maxRecDepth 20000 in
theorem ggX6_isOrder_X6_puts : GoodIn wsX6_isOrder wsX6_puts := goodIn_r _ [42, 1, 51, 52, 53, 54, 55, 56, 57, 58, 59, 60, 61, 62] (by decide +kernel) (by decide +kernel)
set_option maxRecDepth 20000 in
theorem gX6_isOrder_X6_puts : GoodIn wsX6_isOrder (wsV RX6 57 RX6 yX6_puts wsX6_puts) := goodIn_app (goodIn_of _ (by decide +kernel)) ggX6_isOrder_X6_puts
set_option maxRecDepth 20000 in
theorem ggX6_isOrder_X6_isSupplyOrder : GoodIn wsX6_isOrder wsX6_isSupplyOrder := goodIn_r _ [46, 3, 15, 16, 17, 7, 18, 2, 19, 10, 4, 5, 6, 8, 9, 20, 21, 22, 23, 24, 25, 26, 51, 52, 53, 54, 55, 56, 57, 58, 59, 60, 61, 62] (by decide +kernel) (by decide +kernel)
set_option maxRecDepth 20000 in
theorem gX6_isOrder_X6_isSupplyOrder : GoodIn wsX6_isOrder (wsV RX6 151 RX6 yX6_isSupplyOrder wsX6_isSupplyOrder) := goodIn_app (goodIn_of _ (by decide +kernel)) ggX6_isOrder_X6_isSupplyOrder
set_option maxRecDepth 20000 in
theorem ggX6_isOrder_X6_supplies : GoodIn wsX6_isOrder wsX6_supplies := goodIn_r _ [50, 1, 51, 52, 53, 54, 55, 56, 57, 58, 59, 60, 61, 62] (by decide +kernel) (by decide +kernel)
set_option maxRecDepth 20000 in
theorem gX6_isOrder_X6_supplies : GoodIn wsX6_isOrder (wsV RX6 70 RX6 yX6_supplies wsX6_supplies) := goodIn_app (goodIn_of _ (by decide +kernel)) ggX6_isOrder_X6_supplies
theorem dX6_isOrder_0 : decode cX6_isOrder 0 = .ok (.aload_n 0, 1) := by decide +kernel
theorem dX6_isOrder_1 : decode cX6_isOrder 1 = .ok (.invokevirtual 135, 3) := by decide +kernel
theorem dX6_isOrder_4 : decode cX6_isOrder 4 = .ok (.istore_n 1, 1) := by decide +kernel
theorem dX6_isOrder_5 : decode cX6_isOrder 5 = .ok (.iload_n 1, 1) := by decide +kernel
theorem dX6_isOrder_6 : decode cX6_isOrder 6 = .ok (.bipush 100, 2) := by decide +kernel
theorem dX6_isOrder_8 : decode cX6_isOrder 8 = .ok (.if_icmp .ne 22, 3) := by decide +kernel
theorem dX6_isOrder_11 : decode cX6_isOrder 11 = .ok (.aload_n 0, 1) := by decide +kernel
theorem dX6_isOrder_12 : decode cX6_isOrder 12 = .ok (.getfield 7, 3) := by decide +kernel
theorem dX6_isOrder_15 : decode cX6_isOrder 15 = .ok (.iconst 1, 1) := by decide +kernel
theorem dX6_isOrder_16 : decode cX6_isOrder 16 = .ok (.iaload, 1) := by decide +kernel
theorem dX6_isOrder_17 : decode cX6_isOrder 17 = .ok (.bipush 10, 2) := by decide +kernel
theorem dX6_isOrder_19 : decode cX6_isOrder 19 = .ok (.if_icmp .ge 7, 3) := by decide +kernel
theorem dX6_isOrder_22 : decode cX6_isOrder 22 = .ok (.iconst 1, 1) := by decide +kernel
theorem dX6_isOrder_23 : decode cX6_isOrder 23 = .ok (.goto 49, 3) := by decide +kernel
theorem dX6_isOrder_26 : decode cX6_isOrder 26 = .ok (.iconst 0, 1) := by decide +kernel
theorem dX6_isOrder_27 : decode cX6_isOrder 27 = .ok (.goto 45, 3) := by decide +kernel
theorem dX6_isOrder_30 : decode cX6_isOrder 30 = .ok (.iload_n 1, 1) := by decide +kernel
theorem dX6_isOrder_31 : decode cX6_isOrder 31 = .ok (.bipush 117, 2) := by decide +kernel
theorem dX6_isOrder_33 : decode cX6_isOrder 33 = .ok (.if_icmp .ne 22, 3) := by decide +kernel
theorem dX6_isOrder_36 : decode cX6_isOrder 36 = .ok (.aload_n 0, 1) := by decide +kernel
theorem dX6_isOrder_37 : decode cX6_isOrder 37 = .ok (.getfield 7, 3) := by decide +kernel
theorem dX6_isOrder_40 : decode cX6_isOrder 40 = .ok (.iconst 2, 1) := by decide +kernel
theorem dX6_isOrder_41 : decode cX6_isOrder 41 = .ok (.iaload, 1) := by decide +kernel
theorem dX6_isOrder_42 : decode cX6_isOrder 42 = .ok (.bipush 12, 2) := by decide +kernel
theorem dX6_isOrder_44 : decode cX6_isOrder 44 = .ok (.if_icmp .ge 7, 3) := by decide +kernel
theorem dX6_isOrder_47 : decode cX6_isOrder 47 = .ok (.iconst 1, 1) := by decide +kernel
theorem dX6_isOrder_48 : decode cX6_isOrder 48 = .ok (.goto 24, 3) := by decide +kernel
theorem dX6_isOrder_51 : decode cX6_isOrder 51 = .ok (.iconst 0, 1) := by decide +kernel
theorem dX6_isOrder_52 : decode cX6_isOrder 52 = .ok (.goto 20, 3) := by decide +kernel
theorem dX6_isOrder_55 : decode cX6_isOrder 55 = .ok (.iload_n 1, 1) := by decide +kernel
theorem dX6_isOrder_56 : decode cX6_isOrder 56 = .ok (.bipush 116, 2) := by decide +kernel
theorem dX6_isOrder_58 : decode cX6_isOrder 58 = .ok (.if_icmp .eq 9, 3) := by decide +kernel
theorem dX6_isOrder_61 : decode cX6_isOrder 61 = .ok (.iload_n 1, 1) := by decide +kernel
theorem dX6_isOrder_62 : decode cX6_isOrder 62 = .ok (.bipush 115, 2) := by decide +kernel
theorem dX6_isOrder_64 : decode cX6_isOrder 64 = .ok (.if_icmp .ne 7, 3) := by decide +kernel
theorem dX6_isOrder_67 : decode cX6_isOrder 67 = .ok (.iconst 1, 1) := by decide +kernel
theorem dX6_isOrder_68 : decode cX6_isOrder 68 = .ok (.goto 4, 3) := by decide +kernel
theorem dX6_isOrder_71 : decode cX6_isOrder 71 = .ok (.iconst 0, 1) := by decide +kernel
theorem dX6_isOrder_72 : decode cX6_isOrder 72 = .ok (.istore_n 2, 1) := by decide +kernel
theorem dX6_isOrder_73 : decode cX6_isOrder 73 = .ok (.iload_n 2, 1) := by decide +kernel
theorem dX6_isOrder_74 : decode cX6_isOrder 74 = .ok (.ifCond .ne 5, 3) := by decide +kernel
theorem dX6_isOrder_77 : decode cX6_isOrder 77 = .ok (.iconst 0, 1) := by decide +kernel
theorem dX6_isOrder_78 : decode cX6_isOrder 78 = .ok (.ireturn, 1) := by decide +kernel
theorem dX6_isOrder_79 : decode cX6_isOrder 79 = .ok (.aload_n 0, 1) := by decide +kernel
theorem dX6_isOrder_80 : decode cX6_isOrder 80 = .ok (.dup, 1) := by decide +kernel
theorem dX6_isOrder_81 : decode cX6_isOrder 81 = .ok (.getfield 132, 3) := by decide +kernel
theorem dX6_isOrder_84 : decode cX6_isOrder 84 = .ok (.iconst 1, 1) := by decide +kernel
theorem dX6_isOrder_85 : decode cX6_isOrder 85 = .ok (.iadd, 1) := by decide +kernel
theorem dX6_isOrder_86 : decode cX6_isOrder 86 = .ok (.putfield 132, 3) := by decide +kernel
theorem dX6_isOrder_89 : decode cX6_isOrder 89 = .ok (.iload_n 1, 1) := by decide +kernel
theorem dX6_isOrder_90 : decode cX6_isOrder 90 = .ok (.bipush 100, 2) := by decide +kernel
theorem dX6_isOrder_92 : decode cX6_isOrder 92 = .ok (.if_icmp .ne 42, 3) := by decide +kernel
theorem dX6_isOrder_95 : decode cX6_isOrder 95 = .ok (.aload_n 0, 1) := by decide +kernel
theorem dX6_isOrder_96 : decode cX6_isOrder 96 = .ok (.invokevirtual 145, 3) := by decide +kernel
theorem dX6_isOrder_99 : decode cX6_isOrder 99 = .ok (.istore_n 3, 1) := by decide +kernel
theorem dX6_isOrder_100 : decode cX6_isOrder 100 = .ok (.iload_n 3, 1) := by decide +kernel
theorem dX6_isOrder_101 : decode cX6_isOrder 101 = .ok (.ifCond .eq 28, 3) := by decide +kernel
theorem dX6_isOrder_104 : decode cX6_isOrder 104 = .ok (.aload_n 0, 1) := by decide +kernel
theorem dX6_isOrder_105 : decode cX6_isOrder 105 = .ok (.aload_n 0, 1) := by decide +kernel
theorem dX6_isOrder_106 : decode cX6_isOrder 106 = .ok (.getfield 38, 3) := by decide +kernel
theorem dX6_isOrder_109 : decode cX6_isOrder 109 = .ok (.iconst 0, 1) := by decide +kernel
theorem dX6_isOrder_110 : decode cX6_isOrder 110 = .ok (.iaload, 1) := by decide +kernel
theorem dX6_isOrder_111 : decode cX6_isOrder 111 = .ok (.aload_n 0, 1) := by decide +kernel
theorem dX6_isOrder_112 : decode cX6_isOrder 112 = .ok (.getfield 38, 3) := by decide +kernel
theorem dX6_isOrder_115 : decode cX6_isOrder 115 = .ok (.iconst 1, 1) := by decide +kernel
theorem dX6_isOrder_116 : decode cX6_isOrder 116 = .ok (.iaload, 1) := by decide +kernel
theorem dX6_isOrder_117 : decode cX6_isOrder 117 = .ok (.aload_n 0, 1) := by decide +kernel
theorem dX6_isOrder_118 : decode cX6_isOrder 118 = .ok (.getfield 38, 3) := by decide +kernel
theorem dX6_isOrder_121 : decode cX6_isOrder 121 = .ok (.iconst 2, 1) := by decide +kernel
theorem dX6_isOrder_122 : decode cX6_isOrder 122 = .ok (.iaload, 1) := by decide +kernel
theorem dX6_isOrder_123 : decode cX6_isOrder 123 = .ok (.invokevirtual 53, 3) := by decide +kernel
theorem dX6_isOrder_126 : decode cX6_isOrder 126 = .ok (.goto 4, 3) := by decide +kernel
theorem dX6_isOrder_129 : decode cX6_isOrder 129 = .ok (.iconst 0, 1) := by decide +kernel
theorem dX6_isOrder_130 : decode cX6_isOrder 130 = .ok (.istore 4, 2) := by decide +kernel
theorem dX6_isOrder_132 : decode cX6_isOrder 132 = .ok (.iload_n 3, 1) := by decide +kernel
theorem dX6_isOrder_133 : decode cX6_isOrder 133 = .ok (.ireturn, 1) := by decide +kernel
theorem dX6_isOrder_134 : decode cX6_isOrder 134 = .ok (.iload_n 1, 1) := by decide +kernel
theorem dX6_isOrder_135 : decode cX6_isOrder 135 = .ok (.bipush 117, 2) := by decide +kernel
theorem dX6_isOrder_137 : decode cX6_isOrder 137 = .ok (.if_icmp .ne 42, 3) := by decide +kernel
theorem dX6_isOrder_140 : decode cX6_isOrder 140 = .ok (.aload_n 0, 1) := by decide +kernel
theorem dX6_isOrder_141 : decode cX6_isOrder 141 = .ok (.invokevirtual 148, 3) := by decide +kernel
theorem dX6_isOrder_144 : decode cX6_isOrder 144 = .ok (.istore_n 3, 1) := by decide +kernel
theorem dX6_isOrder_145 : decode cX6_isOrder 145 = .ok (.iload_n 3, 1) := by decide +kernel
theorem dX6_isOrder_146 : decode cX6_isOrder 146 = .ok (.ifCond .eq 28, 3) := by decide +kernel
theorem dX6_isOrder_149 : decode cX6_isOrder 149 = .ok (.aload_n 0, 1) := by decide +kernel
theorem dX6_isOrder_150 : decode cX6_isOrder 150 = .ok (.aload_n 0, 1) := by decide +kernel
theorem dX6_isOrder_151 : decode cX6_isOrder 151 = .ok (.getfield 38, 3) := by decide +kernel
theorem dX6_isOrder_154 : decode cX6_isOrder 154 = .ok (.iconst 0, 1) := by decide +kernel
theorem dX6_isOrder_155 : decode cX6_isOrder 155 = .ok (.iaload, 1) := by decide +kernel
theorem dX6_isOrder_156 : decode cX6_isOrder 156 = .ok (.aload_n 0, 1) := by decide +kernel
theorem dX6_isOrder_157 : decode cX6_isOrder 157 = .ok (.getfield 38, 3) := by decide +kernel
theorem dX6_isOrder_160 : decode cX6_isOrder 160 = .ok (.iconst 1, 1) := by decide +kernel
theorem dX6_isOrder_161 : decode cX6_isOrder 161 = .ok (.iaload, 1) := by decide +kernel
theorem dX6_isOrder_162 : decode cX6_isOrder 162 = .ok (.aload_n 0, 1) := by decide +kernel
theorem dX6_isOrder_163 : decode cX6_isOrder 163 = .ok (.getfield 38, 3) := by decide +kernel
theorem dX6_isOrder_166 : decode cX6_isOrder 166 = .ok (.iconst 2, 1) := by decide +kernel
theorem dX6_isOrder_167 : decode cX6_isOrder 167 = .ok (.iaload, 1) := by decide +kernel
theorem dX6_isOrder_168 : decode cX6_isOrder 168 = .ok (.invokevirtual 61, 3) := by decide +kernel
theorem dX6_isOrder_171 : decode cX6_isOrder 171 = .ok (.goto 4, 3) := by decide +kernel
theorem dX6_isOrder_174 : decode cX6_isOrder 174 = .ok (.iconst 0, 1) := by decide +kernel
theorem dX6_isOrder_175 : decode cX6_isOrder 175 = .ok (.istore 4, 2) := by decide +kernel
theorem dX6_isOrder_177 : decode cX6_isOrder 177 = .ok (.iload_n 3, 1) := by decide +kernel
theorem dX6_isOrder_178 : decode cX6_isOrder 178 = .ok (.ireturn, 1) := by decide +kernel
theorem dX6_isOrder_179 : decode cX6_isOrder 179 = .ok (.iload_n 1, 1) := by decide +kernel
theorem dX6_isOrder_180 : decode cX6_isOrder 180 = .ok (.bipush 116, 2) := by decide +kernel
theorem dX6_isOrder_182 : decode cX6_isOrder 182 = .ok (.if_icmp .ne 87, 3) := by decide +kernel
theorem dX6_isOrder_185 : decode cX6_isOrder 185 = .ok (.aload_n 0, 1) := by decide +kernel
theorem dX6_isOrder_186 : decode cX6_isOrder 186 = .ok (.iconst 0, 1) := by decide +kernel
theorem dX6_isOrder_187 : decode cX6_isOrder 187 = .ok (.iconst 0, 1) := by decide +kernel
theorem dX6_isOrder_188 : decode cX6_isOrder 188 = .ok (.aload_n 0, 1) := by decide +kernel
theorem dX6_isOrder_189 : decode cX6_isOrder 189 = .ok (.getfield 7, 3) := by decide +kernel
theorem dX6_isOrder_192 : decode cX6_isOrder 192 = .ok (.iconst 2, 1) := by decide +kernel
theorem dX6_isOrder_193 : decode cX6_isOrder 193 = .ok (.iaload, 1) := by decide +kernel
theorem dX6_isOrder_194 : decode cX6_isOrder 194 = .ok (.iconst 1, 1) := by decide +kernel
theorem dX6_isOrder_195 : decode cX6_isOrder 195 = .ok (.isub, 1) := by decide +kernel
theorem dX6_isOrder_196 : decode cX6_isOrder 196 = .ok (.invokevirtual 139, 3) := by decide +kernel
theorem dX6_isOrder_199 : decode cX6_isOrder 199 = .ok (.ifCond .eq 36, 3) := by decide +kernel
theorem dX6_isOrder_202 : decode cX6_isOrder 202 = .ok (.aload_n 0, 1) := by decide +kernel
theorem dX6_isOrder_203 : decode cX6_isOrder 203 = .ok (.bipush 46, 2) := by decide +kernel
theorem dX6_isOrder_205 : decode cX6_isOrder 205 = .ok (.invokevirtual 142, 3) := by decide +kernel
theorem dX6_isOrder_208 : decode cX6_isOrder 208 = .ok (.ifCond .eq 27, 3) := by decide +kernel
theorem dX6_isOrder_211 : decode cX6_isOrder 211 = .ok (.aload_n 0, 1) := by decide +kernel
theorem dX6_isOrder_212 : decode cX6_isOrder 212 = .ok (.iconst 1, 1) := by decide +kernel
theorem dX6_isOrder_213 : decode cX6_isOrder 213 = .ok (.iconst 0, 1) := by decide +kernel
theorem dX6_isOrder_214 : decode cX6_isOrder 214 = .ok (.bipush 24, 2) := by decide +kernel
theorem dX6_isOrder_216 : decode cX6_isOrder 216 = .ok (.invokevirtual 139, 3) := by decide +kernel
theorem dX6_isOrder_219 : decode cX6_isOrder 219 = .ok (.ifCond .eq 16, 3) := by decide +kernel
theorem dX6_isOrder_222 : decode cX6_isOrder 222 = .ok (.aload_n 0, 1) := by decide +kernel
theorem dX6_isOrder_223 : decode cX6_isOrder 223 = .ok (.bipush 59, 2) := by decide +kernel
theorem dX6_isOrder_225 : decode cX6_isOrder 225 = .ok (.invokevirtual 142, 3) := by decide +kernel
theorem dX6_isOrder_228 : decode cX6_isOrder 228 = .ok (.ifCond .eq 7, 3) := by decide +kernel
theorem dX6_isOrder_231 : decode cX6_isOrder 231 = .ok (.iconst 1, 1) := by decide +kernel
theorem dX6_isOrder_232 : decode cX6_isOrder 232 = .ok (.goto 4, 3) := by decide +kernel
theorem dX6_isOrder_235 : decode cX6_isOrder 235 = .ok (.iconst 0, 1) := by decide +kernel
theorem dX6_isOrder_236 : decode cX6_isOrder 236 = .ok (.istore_n 3, 1) := by decide +kernel
theorem dX6_isOrder_237 : decode cX6_isOrder 237 = .ok (.iload_n 3, 1) := by decide +kernel
theorem dX6_isOrder_238 : decode cX6_isOrder 238 = .ok (.ifCond .eq 26, 3) := by decide +kernel
theorem dX6_isOrder_241 : decode cX6_isOrder 241 = .ok (.aload_n 0, 1) := by decide +kernel
theorem dX6_isOrder_242 : decode cX6_isOrder 242 = .ok (.sipush 178, 3) := by decide +kernel
theorem dX6_isOrder_245 : decode cX6_isOrder 245 = .ok (.aload_n 0, 1) := by decide +kernel
theorem dX6_isOrder_246 : decode cX6_isOrder 246 = .ok (.getfield 38, 3) := by decide +kernel
theorem dX6_isOrder_249 : decode cX6_isOrder 249 = .ok (.iconst 0, 1) := by decide +kernel
theorem dX6_isOrder_250 : decode cX6_isOrder 250 = .ok (.iaload, 1) := by decide +kernel
theorem dX6_isOrder_251 : decode cX6_isOrder 251 = .ok (.iadd, 1) := by decide +kernel
theorem dX6_isOrder_252 : decode cX6_isOrder 252 = .ok (.aload_n 0, 1) := by decide +kernel
theorem dX6_isOrder_253 : decode cX6_isOrder 253 = .ok (.getfield 38, 3) := by decide +kernel
theorem dX6_isOrder_256 : decode cX6_isOrder 256 = .ok (.iconst 1, 1) := by decide +kernel
theorem dX6_isOrder_257 : decode cX6_isOrder 257 = .ok (.iaload, 1) := by decide +kernel
theorem dX6_isOrder_258 : decode cX6_isOrder 258 = .ok (.invokevirtual 57, 3) := by decide +kernel
theorem dX6_isOrder_261 : decode cX6_isOrder 261 = .ok (.goto 4, 3) := by decide +kernel
theorem dX6_isOrder_264 : decode cX6_isOrder 264 = .ok (.iconst 0, 1) := by decide +kernel
theorem dX6_isOrder_265 : decode cX6_isOrder 265 = .ok (.istore 4, 2) := by decide +kernel
theorem dX6_isOrder_267 : decode cX6_isOrder 267 = .ok (.iload_n 3, 1) := by decide +kernel
theorem dX6_isOrder_268 : decode cX6_isOrder 268 = .ok (.ireturn, 1) := by decide +kernel
theorem dX6_isOrder_269 : decode cX6_isOrder 269 = .ok (.aload_n 0, 1) := by decide +kernel
theorem dX6_isOrder_270 : decode cX6_isOrder 270 = .ok (.invokevirtual 151, 3) := by decide +kernel
theorem dX6_isOrder_273 : decode cX6_isOrder 273 = .ok (.istore_n 3, 1) := by decide +kernel
theorem dX6_isOrder_274 : decode cX6_isOrder 274 = .ok (.iload_n 3, 1) := by decide +kernel
theorem dX6_isOrder_275 : decode cX6_isOrder 275 = .ok (.ifCond .eq 28, 3) := by decide +kernel
theorem dX6_isOrder_278 : decode cX6_isOrder 278 = .ok (.aload_n 0, 1) := by decide +kernel
theorem dX6_isOrder_279 : decode cX6_isOrder 279 = .ok (.aload_n 0, 1) := by decide +kernel
theorem dX6_isOrder_280 : decode cX6_isOrder 280 = .ok (.getfield 38, 3) := by decide +kernel
theorem dX6_isOrder_283 : decode cX6_isOrder 283 = .ok (.iconst 0, 1) := by decide +kernel
theorem dX6_isOrder_284 : decode cX6_isOrder 284 = .ok (.iaload, 1) := by decide +kernel
theorem dX6_isOrder_285 : decode cX6_isOrder 285 = .ok (.aload_n 0, 1) := by decide +kernel
theorem dX6_isOrder_286 : decode cX6_isOrder 286 = .ok (.getfield 38, 3) := by decide +kernel
theorem dX6_isOrder_289 : decode cX6_isOrder 289 = .ok (.iconst 1, 1) := by decide +kernel
theorem dX6_isOrder_290 : decode cX6_isOrder 290 = .ok (.iaload, 1) := by decide +kernel
theorem dX6_isOrder_291 : decode cX6_isOrder 291 = .ok (.aload_n 0, 1) := by decide +kernel
theorem dX6_isOrder_292 : decode cX6_isOrder 292 = .ok (.getfield 38, 3) := by decide +kernel
theorem dX6_isOrder_295 : decode cX6_isOrder 295 = .ok (.iconst 2, 1) := by decide +kernel
theorem dX6_isOrder_296 : decode cX6_isOrder 296 = .ok (.iaload, 1) := by decide +kernel
theorem dX6_isOrder_297 : decode cX6_isOrder 297 = .ok (.invokevirtual 70, 3) := by decide +kernel
theorem dX6_isOrder_300 : decode cX6_isOrder 300 = .ok (.goto 4, 3) := by decide +kernel
theorem dX6_isOrder_303 : decode cX6_isOrder 303 = .ok (.iconst 0, 1) := by decide +kernel
theorem dX6_isOrder_304 : decode cX6_isOrder 304 = .ok (.istore 4, 2) := by decide +kernel
theorem dX6_isOrder_306 : decode cX6_isOrder 306 = .ok (.iload_n 3, 1) := by decide +kernel
theorem dX6_isOrder_307 : decode cX6_isOrder 307 = .ok (.ireturn, 1) := by decide +kernel
set_option maxRecDepth 20000 in
theorem ggX6_reads_X6_isOrder : GoodIn wsX6_reads wsX6_isOrder := goodIn_r _ [7, 8, 1, 9, 10, 11, 12, 6, 13, 2, 14, 15, 16, 17, 18, 19, 20, 21, 22, 23, 24, 25, 26, 27, 28, 29, 30, 31, 32, 33, 34, 35, 36, 37, 38, 39, 40, 41, 42, 43, 44, 45, 46, 47, 48, 49, 50, 51, 52, 53, 54, 55, 56, 57, 58, 59, 60, 61, 62, 63, 64, 65, 66] (by decide +kernel) (by decide +kernel)
set_option maxRecDepth 20000 in
theorem gX6_reads_X6_isOrder : GoodIn wsX6_reads (wsV RX6 154 RX6 yX6_isOrder wsX6_isOrder) := goodIn_app (goodIn_of _ (by decide +kernel)) ggX6_reads_X6_isOrder
theorem dX6_reads_0 : decode cX6_reads 0 = .ok (.aload_n 0, 1) := by decide +kernel
theorem dX6_reads_1 : decode cX6_reads 1 = .ok (.iconst 0, 1) := by decide +kernel
theorem dX6_reads_2 : decode cX6_reads 2 = .ok (.putfield 132, 3) := by decide +kernel
theorem dX6_reads_5 : decode cX6_reads 5 = .ok (.iconst 0, 1) := by decide +kernel
theorem dX6_reads_6 : decode cX6_reads 6 = .ok (.istore_n 1, 1) := by decide +kernel
theorem dX6_reads_7 : decode cX6_reads 7 = .ok (.aload_n 0, 1) := by decide +kernel
theorem dX6_reads_8 : decode cX6_reads 8 = .ok (.getfield 132, 3) := by decide +kernel
theorem dX6_reads_11 : decode cX6_reads 11 = .ok (.aload_n 0, 1) := by decide +kernel
theorem dX6_reads_12 : decode cX6_reads 12 = .ok (.getfield 128, 3) := by decide +kernel
theorem dX6_reads_15 : decode cX6_reads 15 = .ok (.if_icmp .ge 18, 3) := by decide +kernel
theorem dX6_reads_18 : decode cX6_reads 18 = .ok (.aload_n 0, 1) := by decide +kernel
theorem dX6_reads_19 : decode cX6_reads 19 = .ok (.invokevirtual 154, 3) := by decide +kernel
theorem dX6_reads_22 : decode cX6_reads 22 = .ok (.ifCond .ne 5, 3) := by decide +kernel
theorem dX6_reads_25 : decode cX6_reads 25 = .ok (.iconst (-1), 1) := by decide +kernel
theorem dX6_reads_26 : decode cX6_reads 26 = .ok (.ireturn, 1) := by decide +kernel
theorem dX6_reads_27 : decode cX6_reads 27 = .ok (.iinc 1 1, 3) := by decide +kernel
theorem dX6_reads_30 : decode cX6_reads 30 = .ok (.goto (-23), 3) := by decide +kernel
theorem dX6_reads_33 : decode cX6_reads 33 = .ok (.iload_n 1, 1) := by decide +kernel
theorem dX6_reads_34 : decode cX6_reads 34 = .ok (.ireturn, 1) := by decide +kernel
set_option maxRecDepth 20000 in
theorem ggX6_faultPosition_X6_keeps : GoodIn wsX6_faultPosition wsX6_keeps := goodIn_r _ [6, 7, 8, 68, 69, 70, 71, 72, 73, 74, 75, 76, 77, 78, 79] (by decide +kernel) (by decide +kernel)
set_option maxRecDepth 20000 in
theorem gX6_faultPosition_X6_keeps : GoodIn wsX6_faultPosition (wsV RX6 113 RX6 yX6_keeps wsX6_keeps) := goodIn_app (goodIn_of _ (by decide +kernel)) ggX6_faultPosition_X6_keeps
set_option maxRecDepth 20000 in
theorem ggX6_faultPosition_X6_reads : GoodIn wsX6_faultPosition wsX6_reads := goodIn_r _ [12, 1, 13, 14, 15, 16, 5, 17, 8, 18, 19, 20, 21, 22, 23, 24, 25, 26, 27, 28, 29, 30, 31, 32, 33, 34, 35, 36, 37, 38, 39, 40, 41, 42, 43, 44, 45, 46, 47, 48, 49, 50, 51, 52, 53, 54, 55, 56, 57, 58, 59, 60, 61, 62, 63, 68, 69, 70, 71, 72, 73, 74, 75, 76, 77, 78, 79] (by decide +kernel) (by decide +kernel)
set_option maxRecDepth 20000 in
theorem gX6_faultPosition_X6_reads : GoodIn wsX6_faultPosition (wsV RX6 157 RX6 yX6_reads wsX6_reads) := goodIn_app (goodIn_of _ (by decide +kernel)) ggX6_faultPosition_X6_reads
set_option maxRecDepth 20000 in
theorem ggX6_faultPosition_X6_brings : GoodIn wsX6_faultPosition wsX6_brings := goodIn_r _ [67, 8, 7, 68, 69, 70, 71, 72, 73, 74, 75, 76, 77, 78, 79] (by decide +kernel) (by decide +kernel)
set_option maxRecDepth 20000 in
theorem gX6_faultPosition_X6_brings : GoodIn wsX6_faultPosition (wsV RX6 116 RX6 yX6_brings wsX6_brings) := goodIn_app (goodIn_of _ (by decide +kernel)) ggX6_faultPosition_X6_brings
theorem dX6_faultPosition_0 : decode cX6_faultPosition 0 = .ok (.aload_n 0, 1) := by decide +kernel
theorem dX6_faultPosition_1 : decode cX6_faultPosition 1 = .ok (.invokevirtual 113, 3) := by decide +kernel
theorem dX6_faultPosition_4 : decode cX6_faultPosition 4 = .ok (.aload_n 0, 1) := by decide +kernel
theorem dX6_faultPosition_5 : decode cX6_faultPosition 5 = .ok (.invokevirtual 157, 3) := by decide +kernel
theorem dX6_faultPosition_8 : decode cX6_faultPosition 8 = .ok (.istore_n 1, 1) := by decide +kernel
theorem dX6_faultPosition_9 : decode cX6_faultPosition 9 = .ok (.aload_n 0, 1) := by decide +kernel
theorem dX6_faultPosition_10 : decode cX6_faultPosition 10 = .ok (.invokevirtual 116, 3) := by decide +kernel
theorem dX6_faultPosition_13 : decode cX6_faultPosition 13 = .ok (.iload_n 1, 1) := by decide +kernel
theorem dX6_faultPosition_14 : decode cX6_faultPosition 14 = .ok (.ifCond .ge 10, 3) := by decide +kernel
theorem dX6_faultPosition_17 : decode cX6_faultPosition 17 = .ok (.aload_n 0, 1) := by decide +kernel
theorem dX6_faultPosition_18 : decode cX6_faultPosition 18 = .ok (.getfield 132, 3) := by decide +kernel
theorem dX6_faultPosition_21 : decode cX6_faultPosition 21 = .ok (.goto 5, 3) := by decide +kernel
theorem dX6_faultPosition_24 : decode cX6_faultPosition 24 = .ok (.bipush (-105), 2) := by decide +kernel
theorem dX6_faultPosition_26 : decode cX6_faultPosition 26 = .ok (.ireturn, 1) := by decide +kernel
set_option maxRecDepth 20000 in
theorem ggX6_read_X6_keeps : GoodIn wsX6_read wsX6_keeps := goodIn_r _ [5, 6, 7, 68, 69, 70, 71, 72, 73, 74, 75, 76, 77, 78, 79] (by decide +kernel) (by decide +kernel)
set_option maxRecDepth 20000 in
theorem gX6_read_X6_keeps : GoodIn wsX6_read (wsV RX6 113 RX6 yX6_keeps wsX6_keeps) := goodIn_app (goodIn_of _ (by decide +kernel)) ggX6_read_X6_keeps
set_option maxRecDepth 20000 in
theorem ggX6_read_X6_reads : GoodIn wsX6_read wsX6_reads := goodIn_r _ [11, 12, 13, 14, 15, 16, 4, 17, 7, 18, 19, 20, 21, 22, 23, 24, 25, 26, 27, 28, 29, 30, 31, 32, 33, 34, 35, 36, 37, 38, 39, 40, 41, 42, 43, 44, 45, 46, 47, 48, 49, 50, 51, 52, 53, 54, 55, 56, 57, 58, 59, 60, 61, 62, 63, 68, 69, 70, 71, 72, 73, 74, 75, 76, 77, 78, 79] (by decide +kernel) (by decide +kernel)
set_option maxRecDepth 20000 in
theorem gX6_read_X6_reads : GoodIn wsX6_read (wsV RX6 157 RX6 yX6_reads wsX6_reads) := goodIn_app (goodIn_of _ (by decide +kernel)) ggX6_read_X6_reads
set_option maxRecDepth 20000 in
theorem ggX6_read_X6_brings : GoodIn wsX6_read wsX6_brings := goodIn_r _ [67, 7, 6, 68, 69, 70, 71, 72, 73, 74, 75, 76, 77, 78, 79] (by decide +kernel) (by decide +kernel)
set_option maxRecDepth 20000 in
theorem gX6_read_X6_brings : GoodIn wsX6_read (wsV RX6 116 RX6 yX6_brings wsX6_brings) := goodIn_app (goodIn_of _ (by decide +kernel)) ggX6_read_X6_brings
theorem dX6_read_0 : decode cX6_read 0 = .ok (.aload_n 0, 1) := by decide +kernel
theorem dX6_read_1 : decode cX6_read 1 = .ok (.invokevirtual 113, 3) := by decide +kernel
theorem dX6_read_4 : decode cX6_read 4 = .ok (.aload_n 0, 1) := by decide +kernel
theorem dX6_read_5 : decode cX6_read 5 = .ok (.invokevirtual 157, 3) := by decide +kernel
theorem dX6_read_8 : decode cX6_read 8 = .ok (.istore_n 1, 1) := by decide +kernel
theorem dX6_read_9 : decode cX6_read 9 = .ok (.iload_n 1, 1) := by decide +kernel
theorem dX6_read_10 : decode cX6_read 10 = .ok (.ifCond .ge 10, 3) := by decide +kernel
theorem dX6_read_13 : decode cX6_read 13 = .ok (.aload_n 0, 1) := by decide +kernel
theorem dX6_read_14 : decode cX6_read 14 = .ok (.invokevirtual 116, 3) := by decide +kernel
theorem dX6_read_17 : decode cX6_read 17 = .ok (.bipush (-103), 2) := by decide +kernel
theorem dX6_read_19 : decode cX6_read 19 = .ok (.ireturn, 1) := by decide +kernel
theorem dX6_read_20 : decode cX6_read 20 = .ok (.iload_n 1, 1) := by decide +kernel
theorem dX6_read_21 : decode cX6_read 21 = .ok (.ireturn, 1) := by decide +kernel
set_option maxRecDepth 20000 in
theorem ggX6_save_X6_in : GoodIn wsX6_save wsX6_in := goodIn_r _ [7] (by decide +kernel) (by decide +kernel)
set_option maxRecDepth 20000 in
theorem gX6_save_X6_in : GoodIn wsX6_save (va_wsS RX6 41 yX6_in wsX6_in) := goodIn_app (goodIn_of _ (by decide +kernel)) ggX6_save_X6_in
theorem dX6_save_0 : decode cX6_save 0 = .ok (.iload_n 1, 1) := by decide +kernel
theorem dX6_save_1 : decode cX6_save 1 = .ok (.iconst 0, 1) := by decide +kernel
theorem dX6_save_2 : decode cX6_save 2 = .ok (.iconst 1, 1) := by decide +kernel
theorem dX6_save_3 : decode cX6_save 3 = .ok (.invokestatic 41, 3) := by decide +kernel
theorem dX6_save_6 : decode cX6_save 6 = .ok (.ifCond .ne 6, 3) := by decide +kernel
theorem dX6_save_9 : decode cX6_save 9 = .ok (.bipush (-101), 2) := by decide +kernel
theorem dX6_save_11 : decode cX6_save 11 = .ok (.ireturn, 1) := by decide +kernel
theorem dX6_save_12 : decode cX6_save 12 = .ok (.iconst 0, 1) := by decide +kernel
theorem dX6_save_13 : decode cX6_save 13 = .ok (.istore_n 2, 1) := by decide +kernel
theorem dX6_save_14 : decode cX6_save 14 = .ok (.iload_n 2, 1) := by decide +kernel
theorem dX6_save_15 : decode cX6_save 15 = .ok (.sipush 214, 3) := by decide +kernel
theorem dX6_save_18 : decode cX6_save 18 = .ok (.if_icmp .ge 27, 3) := by decide +kernel
theorem dX6_save_21 : decode cX6_save 21 = .ok (.aload_n 0, 1) := by decide +kernel
theorem dX6_save_22 : decode cX6_save 22 = .ok (.getfield 16, 3) := by decide +kernel
theorem dX6_save_25 : decode cX6_save 25 = .ok (.sipush 214, 3) := by decide +kernel
theorem dX6_save_28 : decode cX6_save 28 = .ok (.iload_n 1, 1) := by decide +kernel
theorem dX6_save_29 : decode cX6_save 29 = .ok (.imul, 1) := by decide +kernel
theorem dX6_save_30 : decode cX6_save 30 = .ok (.iload_n 2, 1) := by decide +kernel
theorem dX6_save_31 : decode cX6_save 31 = .ok (.iadd, 1) := by decide +kernel
theorem dX6_save_32 : decode cX6_save 32 = .ok (.aload_n 0, 1) := by decide +kernel
theorem dX6_save_33 : decode cX6_save 33 = .ok (.getfield 7, 3) := by decide +kernel
theorem dX6_save_36 : decode cX6_save 36 = .ok (.iload_n 2, 1) := by decide +kernel
theorem dX6_save_37 : decode cX6_save 37 = .ok (.iaload, 1) := by decide +kernel
theorem dX6_save_38 : decode cX6_save 38 = .ok (.iastore, 1) := by decide +kernel
theorem dX6_save_39 : decode cX6_save 39 = .ok (.iinc 2 1, 3) := by decide +kernel
theorem dX6_save_42 : decode cX6_save 42 = .ok (.goto (-28), 3) := by decide +kernel
theorem dX6_save_45 : decode cX6_save 45 = .ok (.aload_n 0, 1) := by decide +kernel
theorem dX6_save_46 : decode cX6_save 46 = .ok (.getfield 19, 3) := by decide +kernel
theorem dX6_save_49 : decode cX6_save 49 = .ok (.iload_n 1, 1) := by decide +kernel
theorem dX6_save_50 : decode cX6_save 50 = .ok (.iconst 1, 1) := by decide +kernel
theorem dX6_save_51 : decode cX6_save 51 = .ok (.bastore, 1) := by decide +kernel
theorem dX6_save_52 : decode cX6_save 52 = .ok (.aload_n 0, 1) := by decide +kernel
theorem dX6_save_53 : decode cX6_save 53 = .ok (.getfield 7, 3) := by decide +kernel
theorem dX6_save_56 : decode cX6_save 56 = .ok (.iconst 0, 1) := by decide +kernel
theorem dX6_save_57 : decode cX6_save 57 = .ok (.iaload, 1) := by decide +kernel
theorem dX6_save_58 : decode cX6_save 58 = .ok (.ireturn, 1) := by decide +kernel
set_option maxRecDepth 20000 in
theorem ggX6_restore_X6_in : GoodIn wsX6_restore wsX6_in := goodIn_r _ [7] (by decide +kernel) (by decide +kernel)
set_option maxRecDepth 20000 in
theorem gX6_restore_X6_in : GoodIn wsX6_restore (va_wsS RX6 41 yX6_in wsX6_in) := goodIn_app (goodIn_of _ (by decide +kernel)) ggX6_restore_X6_in
theorem dX6_restore_0 : decode cX6_restore 0 = .ok (.iload_n 1, 1) := by decide +kernel
theorem dX6_restore_1 : decode cX6_restore 1 = .ok (.iconst 0, 1) := by decide +kernel
theorem dX6_restore_2 : decode cX6_restore 2 = .ok (.iconst 1, 1) := by decide +kernel
theorem dX6_restore_3 : decode cX6_restore 3 = .ok (.invokestatic 41, 3) := by decide +kernel
theorem dX6_restore_6 : decode cX6_restore 6 = .ok (.ifCond .ne 6, 3) := by decide +kernel
theorem dX6_restore_9 : decode cX6_restore 9 = .ok (.bipush (-101), 2) := by decide +kernel
theorem dX6_restore_11 : decode cX6_restore 11 = .ok (.ireturn, 1) := by decide +kernel
theorem dX6_restore_12 : decode cX6_restore 12 = .ok (.aload_n 0, 1) := by decide +kernel
theorem dX6_restore_13 : decode cX6_restore 13 = .ok (.getfield 19, 3) := by decide +kernel
theorem dX6_restore_16 : decode cX6_restore 16 = .ok (.iload_n 1, 1) := by decide +kernel
theorem dX6_restore_17 : decode cX6_restore 17 = .ok (.baload, 1) := by decide +kernel
theorem dX6_restore_18 : decode cX6_restore 18 = .ok (.ifCond .ne 6, 3) := by decide +kernel
theorem dX6_restore_21 : decode cX6_restore 21 = .ok (.bipush (-103), 2) := by decide +kernel
theorem dX6_restore_23 : decode cX6_restore 23 = .ok (.ireturn, 1) := by decide +kernel
theorem dX6_restore_24 : decode cX6_restore 24 = .ok (.iconst 0, 1) := by decide +kernel
theorem dX6_restore_25 : decode cX6_restore 25 = .ok (.istore_n 2, 1) := by decide +kernel
theorem dX6_restore_26 : decode cX6_restore 26 = .ok (.iload_n 2, 1) := by decide +kernel
theorem dX6_restore_27 : decode cX6_restore 27 = .ok (.sipush 214, 3) := by decide +kernel
theorem dX6_restore_30 : decode cX6_restore 30 = .ok (.if_icmp .ge 27, 3) := by decide +kernel
theorem dX6_restore_33 : decode cX6_restore 33 = .ok (.aload_n 0, 1) := by decide +kernel
theorem dX6_restore_34 : decode cX6_restore 34 = .ok (.getfield 7, 3) := by decide +kernel
theorem dX6_restore_37 : decode cX6_restore 37 = .ok (.iload_n 2, 1) := by decide +kernel
theorem dX6_restore_38 : decode cX6_restore 38 = .ok (.aload_n 0, 1) := by decide +kernel
theorem dX6_restore_39 : decode cX6_restore 39 = .ok (.getfield 16, 3) := by decide +kernel
theorem dX6_restore_42 : decode cX6_restore 42 = .ok (.sipush 214, 3) := by decide +kernel
theorem dX6_restore_45 : decode cX6_restore 45 = .ok (.iload_n 1, 1) := by decide +kernel
theorem dX6_restore_46 : decode cX6_restore 46 = .ok (.imul, 1) := by decide +kernel
theorem dX6_restore_47 : decode cX6_restore 47 = .ok (.iload_n 2, 1) := by decide +kernel
theorem dX6_restore_48 : decode cX6_restore 48 = .ok (.iadd, 1) := by decide +kernel
theorem dX6_restore_49 : decode cX6_restore 49 = .ok (.iaload, 1) := by decide +kernel
theorem dX6_restore_50 : decode cX6_restore 50 = .ok (.iastore, 1) := by decide +kernel
theorem dX6_restore_51 : decode cX6_restore 51 = .ok (.iinc 2 1, 3) := by decide +kernel
theorem dX6_restore_54 : decode cX6_restore 54 = .ok (.goto (-28), 3) := by decide +kernel
theorem dX6_restore_57 : decode cX6_restore 57 = .ok (.aload_n 0, 1) := by decide +kernel
theorem dX6_restore_58 : decode cX6_restore 58 = .ok (.getfield 7, 3) := by decide +kernel
theorem dX6_restore_61 : decode cX6_restore 61 = .ok (.iconst 0, 1) := by decide +kernel
theorem dX6_restore_62 : decode cX6_restore 62 = .ok (.iaload, 1) := by decide +kernel
theorem dX6_restore_63 : decode cX6_restore 63 = .ok (.ireturn, 1) := by decide +kernel
theorem dX6_more_0 : decode cX6_more 0 = .ok (.ldc2_w 160, 3) := by decide +kernel
theorem dX6_more_3 : decode cX6_more 3 = .ok (.lload_n 0, 1) := by decide +kernel
theorem dX6_more_4 : decode cX6_more 4 = .ok (.lmul, 1) := by decide +kernel
theorem dX6_more_5 : decode cX6_more 5 = .ok (.iload_n 2, 1) := by decide +kernel
theorem dX6_more_6 : decode cX6_more 6 = .ok (.i2l, 1) := by decide +kernel
theorem dX6_more_7 : decode cX6_more 7 = .ok (.ladd, 1) := by decide +kernel
theorem dX6_more_8 : decode cX6_more 8 = .ok (.lreturn, 1) := by decide +kernel
set_option maxRecDepth 20000 in
theorem ggX6_checksum_X6_distributes : GoodIn wsX6_checksum wsX6_distributes := goodIn_r _ [11, 2, 6, 12, 13, 14, 10, 15, 5, 16, 17, 18, 19, 20, 21, 22, 23, 24, 25, 26, 27, 28, 29, 30, 31, 32, 33, 34, 35, 36, 37, 38, 39, 40, 41, 4, 3, 42, 43, 44, 45, 46, 47, 48, 49, 50, 51, 52, 53, 62, 63, 64, 65, 66, 67, 68, 69, 70, 71, 72, 73] (by decide +kernel) (by decide +kernel)
set_option maxRecDepth 20000 in
theorem gX6_checksum_X6_distributes : GoodIn wsX6_checksum (wsV RX6 104 RX6 yX6_distributes wsX6_distributes) := goodIn_app (goodIn_of _ (by decide +kernel)) ggX6_checksum_X6_distributes
set_option maxRecDepth 20000 in
theorem ggX6_checksum_X6_more : GoodIn wsX6_checksum wsX6_more := goodIn_r _ [56, 57] (by decide +kernel) (by decide +kernel)
set_option maxRecDepth 20000 in
theorem gX6_checksum_X6_more : GoodIn wsX6_checksum (va_wsS RX6 164 yX6_more wsX6_more) := goodIn_app (goodIn_of _ (by decide +kernel)) ggX6_checksum_X6_more
set_option maxRecDepth 20000 in
theorem ggX6_checksum_X6_turn : GoodIn wsX6_checksum wsX6_turn := goodIn_r _ [61, 16, 17, 18, 10, 19, 2, 62, 63, 64, 65, 66, 67, 68, 69, 70, 71, 72, 73] (by decide +kernel) (by decide +kernel)
set_option maxRecDepth 20000 in
theorem gX6_checksum_X6_turn : GoodIn wsX6_checksum (wsV RX6 168 RX6 yX6_turn wsX6_turn) := goodIn_app (goodIn_of _ (by decide +kernel)) ggX6_checksum_X6_turn
theorem dX6_checksum_0 : decode cX6_checksum 0 = .ok (.aload_n 0, 1) := by decide +kernel
theorem dX6_checksum_1 : decode cX6_checksum 1 = .ok (.invokevirtual 104, 3) := by decide +kernel
theorem dX6_checksum_4 : decode cX6_checksum 4 = .ok (.ldc2_w 162, 3) := by decide +kernel
theorem dX6_checksum_7 : decode cX6_checksum 7 = .ok (.aload_n 0, 1) := by decide +kernel
theorem dX6_checksum_8 : decode cX6_checksum 8 = .ok (.getfield 7, 3) := by decide +kernel
theorem dX6_checksum_11 : decode cX6_checksum 11 = .ok (.iconst 0, 1) := by decide +kernel
theorem dX6_checksum_12 : decode cX6_checksum 12 = .ok (.iaload, 1) := by decide +kernel
theorem dX6_checksum_13 : decode cX6_checksum 13 = .ok (.invokestatic 164, 3) := by decide +kernel
theorem dX6_checksum_16 : decode cX6_checksum 16 = .ok (.aload_n 0, 1) := by decide +kernel
theorem dX6_checksum_17 : decode cX6_checksum 17 = .ok (.getfield 7, 3) := by decide +kernel
theorem dX6_checksum_20 : decode cX6_checksum 20 = .ok (.iconst 1, 1) := by decide +kernel
theorem dX6_checksum_21 : decode cX6_checksum 21 = .ok (.iaload, 1) := by decide +kernel
theorem dX6_checksum_22 : decode cX6_checksum 22 = .ok (.invokestatic 164, 3) := by decide +kernel
theorem dX6_checksum_25 : decode cX6_checksum 25 = .ok (.aload_n 0, 1) := by decide +kernel
theorem dX6_checksum_26 : decode cX6_checksum 26 = .ok (.getfield 7, 3) := by decide +kernel
theorem dX6_checksum_29 : decode cX6_checksum 29 = .ok (.iconst 2, 1) := by decide +kernel
theorem dX6_checksum_30 : decode cX6_checksum 30 = .ok (.iaload, 1) := by decide +kernel
theorem dX6_checksum_31 : decode cX6_checksum 31 = .ok (.invokestatic 164, 3) := by decide +kernel
theorem dX6_checksum_34 : decode cX6_checksum 34 = .ok (.lstore_n 1, 1) := by decide +kernel
theorem dX6_checksum_35 : decode cX6_checksum 35 = .ok (.iconst 0, 1) := by decide +kernel
theorem dX6_checksum_36 : decode cX6_checksum 36 = .ok (.istore_n 3, 1) := by decide +kernel
theorem dX6_checksum_37 : decode cX6_checksum 37 = .ok (.iload_n 3, 1) := by decide +kernel
theorem dX6_checksum_38 : decode cX6_checksum 38 = .ok (.aload_n 0, 1) := by decide +kernel
theorem dX6_checksum_39 : decode cX6_checksum 39 = .ok (.getfield 7, 3) := by decide +kernel
theorem dX6_checksum_42 : decode cX6_checksum 42 = .ok (.iconst 1, 1) := by decide +kernel
theorem dX6_checksum_43 : decode cX6_checksum 43 = .ok (.iaload, 1) := by decide +kernel
theorem dX6_checksum_44 : decode cX6_checksum 44 = .ok (.if_icmp .ge 36, 3) := by decide +kernel
theorem dX6_checksum_47 : decode cX6_checksum 47 = .ok (.lload_n 1, 1) := by decide +kernel
theorem dX6_checksum_48 : decode cX6_checksum 48 = .ok (.aload_n 0, 1) := by decide +kernel
theorem dX6_checksum_49 : decode cX6_checksum 49 = .ok (.getfield 32, 3) := by decide +kernel
theorem dX6_checksum_52 : decode cX6_checksum 52 = .ok (.iload_n 3, 1) := by decide +kernel
theorem dX6_checksum_53 : decode cX6_checksum 53 = .ok (.iaload, 1) := by decide +kernel
theorem dX6_checksum_54 : decode cX6_checksum 54 = .ok (.invokestatic 164, 3) := by decide +kernel
theorem dX6_checksum_57 : decode cX6_checksum 57 = .ok (.aload_n 0, 1) := by decide +kernel
theorem dX6_checksum_58 : decode cX6_checksum 58 = .ok (.getfield 32, 3) := by decide +kernel
theorem dX6_checksum_61 : decode cX6_checksum 61 = .ok (.iload_n 3, 1) := by decide +kernel
theorem dX6_checksum_62 : decode cX6_checksum 62 = .ok (.iaload, 1) := by decide +kernel
theorem dX6_checksum_63 : decode cX6_checksum 63 = .ok (.aload_n 0, 1) := by decide +kernel
theorem dX6_checksum_64 : decode cX6_checksum 64 = .ok (.getfield 35, 3) := by decide +kernel
theorem dX6_checksum_67 : decode cX6_checksum 67 = .ok (.iload_n 3, 1) := by decide +kernel
theorem dX6_checksum_68 : decode cX6_checksum 68 = .ok (.iaload, 1) := by decide +kernel
theorem dX6_checksum_69 : decode cX6_checksum 69 = .ok (.isub, 1) := by decide +kernel
theorem dX6_checksum_70 : decode cX6_checksum 70 = .ok (.invokestatic 164, 3) := by decide +kernel
theorem dX6_checksum_73 : decode cX6_checksum 73 = .ok (.lstore_n 1, 1) := by decide +kernel
theorem dX6_checksum_74 : decode cX6_checksum 74 = .ok (.iinc 3 1, 3) := by decide +kernel
theorem dX6_checksum_77 : decode cX6_checksum 77 = .ok (.goto (-40), 3) := by decide +kernel
theorem dX6_checksum_80 : decode cX6_checksum 80 = .ok (.iconst 0, 1) := by decide +kernel
theorem dX6_checksum_81 : decode cX6_checksum 81 = .ok (.istore_n 3, 1) := by decide +kernel
theorem dX6_checksum_82 : decode cX6_checksum 82 = .ok (.iload_n 3, 1) := by decide +kernel
theorem dX6_checksum_83 : decode cX6_checksum 83 = .ok (.aload_n 0, 1) := by decide +kernel
theorem dX6_checksum_84 : decode cX6_checksum 84 = .ok (.getfield 7, 3) := by decide +kernel
theorem dX6_checksum_87 : decode cX6_checksum 87 = .ok (.iconst 2, 1) := by decide +kernel
theorem dX6_checksum_88 : decode cX6_checksum 88 = .ok (.iaload, 1) := by decide +kernel
theorem dX6_checksum_89 : decode cX6_checksum 89 = .ok (.if_icmp .ge 70, 3) := by decide +kernel
theorem dX6_checksum_92 : decode cX6_checksum 92 = .ok (.lload_n 1, 1) := by decide +kernel
theorem dX6_checksum_93 : decode cX6_checksum 93 = .ok (.aload_n 0, 1) := by decide +kernel
theorem dX6_checksum_94 : decode cX6_checksum 94 = .ok (.getfield 26, 3) := by decide +kernel
theorem dX6_checksum_97 : decode cX6_checksum 97 = .ok (.iload_n 3, 1) := by decide +kernel
theorem dX6_checksum_98 : decode cX6_checksum 98 = .ok (.iaload, 1) := by decide +kernel
theorem dX6_checksum_99 : decode cX6_checksum 99 = .ok (.invokestatic 164, 3) := by decide +kernel
theorem dX6_checksum_102 : decode cX6_checksum 102 = .ok (.aload_n 0, 1) := by decide +kernel
theorem dX6_checksum_103 : decode cX6_checksum 103 = .ok (.getfield 29, 3) := by decide +kernel
theorem dX6_checksum_106 : decode cX6_checksum 106 = .ok (.iload_n 3, 1) := by decide +kernel
theorem dX6_checksum_107 : decode cX6_checksum 107 = .ok (.iaload, 1) := by decide +kernel
theorem dX6_checksum_108 : decode cX6_checksum 108 = .ok (.invokestatic 164, 3) := by decide +kernel
theorem dX6_checksum_111 : decode cX6_checksum 111 = .ok (.aload_n 0, 1) := by decide +kernel
theorem dX6_checksum_112 : decode cX6_checksum 112 = .ok (.getfield 7, 3) := by decide +kernel
theorem dX6_checksum_115 : decode cX6_checksum 115 = .ok (.sipush 154, 3) := by decide +kernel
theorem dX6_checksum_118 : decode cX6_checksum 118 = .ok (.iload_n 3, 1) := by decide +kernel
theorem dX6_checksum_119 : decode cX6_checksum 119 = .ok (.iadd, 1) := by decide +kernel
theorem dX6_checksum_120 : decode cX6_checksum 120 = .ok (.iaload, 1) := by decide +kernel
theorem dX6_checksum_121 : decode cX6_checksum 121 = .ok (.invokestatic 164, 3) := by decide +kernel
theorem dX6_checksum_124 : decode cX6_checksum 124 = .ok (.lstore_n 1, 1) := by decide +kernel
theorem dX6_checksum_125 : decode cX6_checksum 125 = .ok (.lload_n 1, 1) := by decide +kernel
theorem dX6_checksum_126 : decode cX6_checksum 126 = .ok (.aload_n 0, 1) := by decide +kernel
theorem dX6_checksum_127 : decode cX6_checksum 127 = .ok (.getfield 7, 3) := by decide +kernel
theorem dX6_checksum_130 : decode cX6_checksum 130 = .ok (.sipush 190, 3) := by decide +kernel
theorem dX6_checksum_133 : decode cX6_checksum 133 = .ok (.iload_n 3, 1) := by decide +kernel
theorem dX6_checksum_134 : decode cX6_checksum 134 = .ok (.iadd, 1) := by decide +kernel
theorem dX6_checksum_135 : decode cX6_checksum 135 = .ok (.iaload, 1) := by decide +kernel
theorem dX6_checksum_136 : decode cX6_checksum 136 = .ok (.invokestatic 164, 3) := by decide +kernel
theorem dX6_checksum_139 : decode cX6_checksum 139 = .ok (.aload_n 0, 1) := by decide +kernel
theorem dX6_checksum_140 : decode cX6_checksum 140 = .ok (.getfield 7, 3) := by decide +kernel
theorem dX6_checksum_143 : decode cX6_checksum 143 = .ok (.sipush 202, 3) := by decide +kernel
theorem dX6_checksum_146 : decode cX6_checksum 146 = .ok (.iload_n 3, 1) := by decide +kernel
theorem dX6_checksum_147 : decode cX6_checksum 147 = .ok (.iadd, 1) := by decide +kernel
theorem dX6_checksum_148 : decode cX6_checksum 148 = .ok (.iaload, 1) := by decide +kernel
theorem dX6_checksum_149 : decode cX6_checksum 149 = .ok (.invokestatic 164, 3) := by decide +kernel
theorem dX6_checksum_152 : decode cX6_checksum 152 = .ok (.lstore_n 1, 1) := by decide +kernel
theorem dX6_checksum_153 : decode cX6_checksum 153 = .ok (.iinc 3 1, 3) := by decide +kernel
theorem dX6_checksum_156 : decode cX6_checksum 156 = .ok (.goto (-74), 3) := by decide +kernel
theorem dX6_checksum_159 : decode cX6_checksum 159 = .ok (.iconst 0, 1) := by decide +kernel
theorem dX6_checksum_160 : decode cX6_checksum 160 = .ok (.istore_n 3, 1) := by decide +kernel
theorem dX6_checksum_161 : decode cX6_checksum 161 = .ok (.iload_n 3, 1) := by decide +kernel
theorem dX6_checksum_162 : decode cX6_checksum 162 = .ok (.bipush 7, 2) := by decide +kernel
theorem dX6_checksum_164 : decode cX6_checksum 164 = .ok (.if_icmp .ge 22, 3) := by decide +kernel
theorem dX6_checksum_167 : decode cX6_checksum 167 = .ok (.lload_n 1, 1) := by decide +kernel
theorem dX6_checksum_168 : decode cX6_checksum 168 = .ok (.aload_n 0, 1) := by decide +kernel
theorem dX6_checksum_169 : decode cX6_checksum 169 = .ok (.getfield 7, 3) := by decide +kernel
theorem dX6_checksum_172 : decode cX6_checksum 172 = .ok (.iconst 5, 1) := by decide +kernel
theorem dX6_checksum_173 : decode cX6_checksum 173 = .ok (.iload_n 3, 1) := by decide +kernel
theorem dX6_checksum_174 : decode cX6_checksum 174 = .ok (.iadd, 1) := by decide +kernel
theorem dX6_checksum_175 : decode cX6_checksum 175 = .ok (.iaload, 1) := by decide +kernel
theorem dX6_checksum_176 : decode cX6_checksum 176 = .ok (.invokestatic 164, 3) := by decide +kernel
theorem dX6_checksum_179 : decode cX6_checksum 179 = .ok (.lstore_n 1, 1) := by decide +kernel
