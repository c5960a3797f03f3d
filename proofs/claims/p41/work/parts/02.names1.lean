theorem dX2_unitsAsked_14 : decode cX2_unitsAsked 14 = .ok (.iconst 0, 1) := by decide +kernel
theorem dX2_unitsAsked_15 : decode cX2_unitsAsked 15 = .ok (.ireturn, 1) := by decide +kernel
theorem dX2_unitsAsked_16 : decode cX2_unitsAsked 16 = .ok (.aload_n 3, 1) := by decide +kernel
theorem dX2_unitsAsked_17 : decode cX2_unitsAsked 17 = .ok (.aload_n 0, 1) := by decide +kernel
theorem dX2_unitsAsked_18 : decode cX2_unitsAsked 18 = .ok (.invokevirtual 94, 3) := by decide +kernel
theorem dX2_unitsAsked_21 : decode cX2_unitsAsked 21 = .ok (.invokevirtual 105, 3) := by decide +kernel
theorem dX2_unitsAsked_24 : decode cX2_unitsAsked 24 = .ok (.aload_n 3, 1) := by decide +kernel
theorem dX2_unitsAsked_25 : decode cX2_unitsAsked 25 = .ok (.invokevirtual 109, 3) := by decide +kernel
theorem dX2_unitsAsked_28 : decode cX2_unitsAsked 28 = .ok (.iadd, 1) := by decide +kernel
theorem dX2_unitsAsked_29 : decode cX2_unitsAsked 29 = .ok (.istore 4, 2) := by decide +kernel
theorem dX2_unitsAsked_31 : decode cX2_unitsAsked 31 = .ok (.iload_n 1, 1) := by decide +kernel
theorem dX2_unitsAsked_32 : decode cX2_unitsAsked 32 = .ok (.iload_n 2, 1) := by decide +kernel
theorem dX2_unitsAsked_33 : decode cX2_unitsAsked 33 = .ok (.if_icmp .ne 8, 3) := by decide +kernel
theorem dX2_unitsAsked_36 : decode cX2_unitsAsked 36 = .ok (.iload 4, 2) := by decide +kernel
theorem dX2_unitsAsked_38 : decode cX2_unitsAsked 38 = .ok (.goto 12, 3) := by decide +kernel
theorem dX2_unitsAsked_41 : decode cX2_unitsAsked 41 = .ok (.aload_n 3, 1) := by decide +kernel
theorem dX2_unitsAsked_42 : decode cX2_unitsAsked 42 = .ok (.getfield 112, 3) := by decide +kernel
theorem dX2_unitsAsked_45 : decode cX2_unitsAsked 45 = .ok (.iload 4, 2) := by decide +kernel
theorem dX2_unitsAsked_47 : decode cX2_unitsAsked 47 = .ok (.invokestatic 115, 3) := by decide +kernel
theorem dX2_unitsAsked_50 : decode cX2_unitsAsked 50 = .ok (.ireturn, 1) := by decide +kernel
set_option maxRecDepth 20000 in
theorem ggX2_passHour_X1_distribute : GoodIn wsX2_passHour wsX1_distribute := goodIn_r _ [12, 13, 14, 15, 16, 17, 18, 19, 20, 21, 22, 23, 24, 25, 26, 27, 28, 7, 29, 30, 31, 32, 33, 34, 35, 36, 4, 5, 37, 38, 39, 40, 41, 42, 43, 44, 45, 46, 47, 48, 49, 50, 51, 52, 53, 54, 55, 56, 57, 58, 59, 60, 61, 62, 63, 64, 65, 11, 66, 67, 68, 69, 70, 71, 72, 73, 74, 75, 76, 77, 78, 79, 80, 81, 82, 83, 84, 85, 86, 87, 88, 89, 90, 91, 92, 93, 94, 95, 96, 97, 98, 99, 100, 101, 102, 103, 104, 105, 106, 107, 108, 109, 110, 133, 134, 135, 136, 137, 138, 123, 124, 125, 126, 127, 128, 129, 130, 131, 132, 139, 140, 141, 142, 143, 144, 145, 146, 147, 148, 149, 150, 151, 152, 153] (by decide +kernel) (by decide +kernel)
set_option maxRecDepth 20000 in
theorem gX2_passHour_X1_distribute : GoodIn wsX2_passHour (wsV RX2 118 RX1 yX1_distribute wsX1_distribute) := goodIn_app (goodIn_of _ (by decide +kernel)) ggX2_passHour_X1_distribute
set_option maxRecDepth 20000 in
theorem ggX2_passHour_X2_supplyNow : GoodIn wsX2_passHour wsX2_supplyNow := goodIn_r _ [23, 24, 25, 26, 27, 22, 28, 7, 29, 30, 31, 32, 123, 124, 125, 126, 127, 128, 129, 130, 131, 132] (by decide +kernel) (by decide +kernel)
set_option maxRecDepth 20000 in
theorem gX2_passHour_X2_supplyNow : GoodIn wsX2_passHour (wsV RX2 127 RX2 yX2_supplyNow wsX2_supplyNow) := goodIn_app (goodIn_of _ (by decide +kernel)) ggX2_passHour_X2_supplyNow
set_option maxRecDepth 20000 in
theorem ggX2_passHour_X1_lostIn : GoodIn wsX2_passHour wsX1_lostIn := goodIn_r _ [115, 79, 76, 133, 134, 135, 136, 137, 138] (by decide +kernel) (by decide +kernel)
set_option maxRecDepth 20000 in
theorem gX2_passHour_X1_lostIn : GoodIn wsX2_passHour (wsV RX2 130 RX1 yX1_lostIn wsX1_lostIn) := goodIn_app (goodIn_of _ (by decide +kernel)) ggX2_passHour_X1_lostIn
set_option maxRecDepth 20000 in
theorem ggX2_passHour_X2_useWater : GoodIn wsX2_passHour wsX2_useWater := goodIn_r _ [119, 120, 45, 46, 47, 48, 121, 122, 43, 1, 25, 26, 27, 22, 28, 7, 29, 30, 31, 32, 49, 50, 51, 52, 53, 54, 55, 56, 139, 140, 141, 142, 143, 144, 145, 146, 147, 148, 149, 150, 123, 124, 125, 126, 127, 128, 129, 130, 131, 132] (by decide +kernel) (by decide +kernel)
set_option maxRecDepth 20000 in
theorem gX2_passHour_X2_useWater : GoodIn wsX2_passHour (wsV RX2 136 RX2 yX2_useWater wsX2_useWater) := goodIn_app (goodIn_of _ (by decide +kernel)) ggX2_passHour_X2_useWater
theorem dX2_passHour_0 : decode cX2_passHour 0 = .ok (.aload_n 1, 1) := by decide +kernel
theorem dX2_passHour_1 : decode cX2_passHour 1 = .ok (.aload_n 0, 1) := by decide +kernel
theorem dX2_passHour_2 : decode cX2_passHour 2 = .ok (.invokevirtual 118, 3) := by decide +kernel
theorem dX2_passHour_5 : decode cX2_passHour 5 = .ok (.aload_n 0, 1) := by decide +kernel
theorem dX2_passHour_6 : decode cX2_passHour 6 = .ok (.getfield 30, 3) := by decide +kernel
theorem dX2_passHour_9 : decode cX2_passHour 9 = .ok (.bipush 6, 2) := by decide +kernel
theorem dX2_passHour_11 : decode cX2_passHour 11 = .ok (.iaload, 1) := by decide +kernel
theorem dX2_passHour_12 : decode cX2_passHour 12 = .ok (.istore_n 2, 1) := by decide +kernel
theorem dX2_passHour_13 : decode cX2_passHour 13 = .ok (.aload_n 0, 1) := by decide +kernel
theorem dX2_passHour_14 : decode cX2_passHour 14 = .ok (.getfield 30, 3) := by decide +kernel
theorem dX2_passHour_17 : decode cX2_passHour 17 = .ok (.iconst 0, 1) := by decide +kernel
theorem dX2_passHour_18 : decode cX2_passHour 18 = .ok (.dup2, 1) := by decide +kernel
theorem dX2_passHour_19 : decode cX2_passHour 19 = .ok (.iaload, 1) := by decide +kernel
theorem dX2_passHour_20 : decode cX2_passHour 20 = .ok (.aload_n 1, 1) := by decide +kernel
theorem dX2_passHour_21 : decode cX2_passHour 21 = .ok (.getfield 124, 3) := by decide +kernel
theorem dX2_passHour_24 : decode cX2_passHour 24 = .ok (.iconst 0, 1) := by decide +kernel
theorem dX2_passHour_25 : decode cX2_passHour 25 = .ok (.iaload, 1) := by decide +kernel
theorem dX2_passHour_26 : decode cX2_passHour 26 = .ok (.iadd, 1) := by decide +kernel
theorem dX2_passHour_27 : decode cX2_passHour 27 = .ok (.iastore, 1) := by decide +kernel
theorem dX2_passHour_28 : decode cX2_passHour 28 = .ok (.aload_n 0, 1) := by decide +kernel
theorem dX2_passHour_29 : decode cX2_passHour 29 = .ok (.getfield 30, 3) := by decide +kernel
theorem dX2_passHour_32 : decode cX2_passHour 32 = .ok (.iconst 1, 1) := by decide +kernel
theorem dX2_passHour_33 : decode cX2_passHour 33 = .ok (.dup2, 1) := by decide +kernel
theorem dX2_passHour_34 : decode cX2_passHour 34 = .ok (.iaload, 1) := by decide +kernel
theorem dX2_passHour_35 : decode cX2_passHour 35 = .ok (.aload_n 0, 1) := by decide +kernel
theorem dX2_passHour_36 : decode cX2_passHour 36 = .ok (.invokevirtual 127, 3) := by decide +kernel
theorem dX2_passHour_39 : decode cX2_passHour 39 = .ok (.aload_n 1, 1) := by decide +kernel
theorem dX2_passHour_40 : decode cX2_passHour 40 = .ok (.getfield 124, 3) := by decide +kernel
theorem dX2_passHour_43 : decode cX2_passHour 43 = .ok (.iconst 0, 1) := by decide +kernel
theorem dX2_passHour_44 : decode cX2_passHour 44 = .ok (.iaload, 1) := by decide +kernel
theorem dX2_passHour_45 : decode cX2_passHour 45 = .ok (.isub, 1) := by decide +kernel
theorem dX2_passHour_46 : decode cX2_passHour 46 = .ok (.iadd, 1) := by decide +kernel
theorem dX2_passHour_47 : decode cX2_passHour 47 = .ok (.iastore, 1) := by decide +kernel
theorem dX2_passHour_48 : decode cX2_passHour 48 = .ok (.iconst 0, 1) := by decide +kernel
theorem dX2_passHour_49 : decode cX2_passHour 49 = .ok (.istore_n 3, 1) := by decide +kernel
theorem dX2_passHour_50 : decode cX2_passHour 50 = .ok (.iload_n 3, 1) := by decide +kernel
theorem dX2_passHour_51 : decode cX2_passHour 51 = .ok (.aload_n 0, 1) := by decide +kernel
theorem dX2_passHour_52 : decode cX2_passHour 52 = .ok (.getfield 49, 3) := by decide +kernel
theorem dX2_passHour_55 : decode cX2_passHour 55 = .ok (.if_icmp .ge 23, 3) := by decide +kernel
theorem dX2_passHour_58 : decode cX2_passHour 58 = .ok (.aload_n 0, 1) := by decide +kernel
theorem dX2_passHour_59 : decode cX2_passHour 59 = .ok (.getfield 30, 3) := by decide +kernel
theorem dX2_passHour_62 : decode cX2_passHour 62 = .ok (.iconst 2, 1) := by decide +kernel
theorem dX2_passHour_63 : decode cX2_passHour 63 = .ok (.dup2, 1) := by decide +kernel
theorem dX2_passHour_64 : decode cX2_passHour 64 = .ok (.iaload, 1) := by decide +kernel
theorem dX2_passHour_65 : decode cX2_passHour 65 = .ok (.aload_n 1, 1) := by decide +kernel
theorem dX2_passHour_66 : decode cX2_passHour 66 = .ok (.iload_n 3, 1) := by decide +kernel
theorem dX2_passHour_67 : decode cX2_passHour 67 = .ok (.invokevirtual 130, 3) := by decide +kernel
theorem dX2_passHour_70 : decode cX2_passHour 70 = .ok (.iadd, 1) := by decide +kernel
theorem dX2_passHour_71 : decode cX2_passHour 71 = .ok (.iastore, 1) := by decide +kernel
theorem dX2_passHour_72 : decode cX2_passHour 72 = .ok (.iinc 3 1, 3) := by decide +kernel
theorem dX2_passHour_75 : decode cX2_passHour 75 = .ok (.goto (-25), 3) := by decide +kernel
theorem dX2_passHour_78 : decode cX2_passHour 78 = .ok (.iconst 0, 1) := by decide +kernel
theorem dX2_passHour_79 : decode cX2_passHour 79 = .ok (.istore_n 3, 1) := by decide +kernel
theorem dX2_passHour_80 : decode cX2_passHour 80 = .ok (.iload_n 3, 1) := by decide +kernel
theorem dX2_passHour_81 : decode cX2_passHour 81 = .ok (.aload_n 0, 1) := by decide +kernel
theorem dX2_passHour_82 : decode cX2_passHour 82 = .ok (.getfield 64, 3) := by decide +kernel
theorem dX2_passHour_85 : decode cX2_passHour 85 = .ok (.if_icmp .ge 25, 3) := by decide +kernel
theorem dX2_passHour_88 : decode cX2_passHour 88 = .ok (.aload_n 0, 1) := by decide +kernel
theorem dX2_passHour_89 : decode cX2_passHour 89 = .ok (.aload_n 0, 1) := by decide +kernel
theorem dX2_passHour_90 : decode cX2_passHour 90 = .ok (.getfield 19, 3) := by decide +kernel
theorem dX2_passHour_93 : decode cX2_passHour 93 = .ok (.iload_n 3, 1) := by decide +kernel
theorem dX2_passHour_94 : decode cX2_passHour 94 = .ok (.aaload, 1) := by decide +kernel
theorem dX2_passHour_95 : decode cX2_passHour 95 = .ok (.aload_n 1, 1) := by decide +kernel
theorem dX2_passHour_96 : decode cX2_passHour 96 = .ok (.getfield 133, 3) := by decide +kernel
theorem dX2_passHour_99 : decode cX2_passHour 99 = .ok (.iload_n 3, 1) := by decide +kernel
theorem dX2_passHour_100 : decode cX2_passHour 100 = .ok (.iaload, 1) := by decide +kernel
theorem dX2_passHour_101 : decode cX2_passHour 101 = .ok (.invokevirtual 136, 3) := by decide +kernel
theorem dX2_passHour_104 : decode cX2_passHour 104 = .ok (.iinc 3 1, 3) := by decide +kernel
theorem dX2_passHour_107 : decode cX2_passHour 107 = .ok (.goto (-27), 3) := by decide +kernel
theorem dX2_passHour_110 : decode cX2_passHour 110 = .ok (.aload_n 0, 1) := by decide +kernel
theorem dX2_passHour_111 : decode cX2_passHour 111 = .ok (.dup, 1) := by decide +kernel
theorem dX2_passHour_112 : decode cX2_passHour 112 = .ok (.getfield 71, 3) := by decide +kernel
theorem dX2_passHour_115 : decode cX2_passHour 115 = .ok (.iconst 1, 1) := by decide +kernel
theorem dX2_passHour_116 : decode cX2_passHour 116 = .ok (.iadd, 1) := by decide +kernel
theorem dX2_passHour_117 : decode cX2_passHour 117 = .ok (.putfield 71, 3) := by decide +kernel
theorem dX2_passHour_120 : decode cX2_passHour 120 = .ok (.aload_n 0, 1) := by decide +kernel
theorem dX2_passHour_121 : decode cX2_passHour 121 = .ok (.getfield 30, 3) := by decide +kernel
theorem dX2_passHour_124 : decode cX2_passHour 124 = .ok (.bipush 6, 2) := by decide +kernel
theorem dX2_passHour_126 : decode cX2_passHour 126 = .ok (.iaload, 1) := by decide +kernel
theorem dX2_passHour_127 : decode cX2_passHour 127 = .ok (.iload_n 2, 1) := by decide +kernel
theorem dX2_passHour_128 : decode cX2_passHour 128 = .ok (.isub, 1) := by decide +kernel
theorem dX2_passHour_129 : decode cX2_passHour 129 = .ok (.ireturn, 1) := by decide +kernel
set_option maxRecDepth 20000 in
theorem ggX2_useWater_X2_hourOfDay : GoodIn wsX2_useWater wsX2_hourOfDay := goodIn_r _ [14, 15, 16, 17, 18, 19, 40, 41, 42, 43, 44, 45, 46, 47, 48, 49] (by decide +kernel) (by decide +kernel)
set_option maxRecDepth 20000 in
theorem gX2_useWater_X2_hourOfDay : GoodIn wsX2_useWater (wsV RX2 94 RX2 yX2_hourOfDay wsX2_hourOfDay) := goodIn_app (goodIn_of _ (by decide +kernel)) ggX2_useWater_X2_hourOfDay
set_option maxRecDepth 20000 in
theorem ggX2_useWater_X4_needAt : GoodIn wsX2_useWater wsX4_needAt := goodIn_r _ [24, 25, 26, 27, 28, 29, 30, 31, 32, 33, 34, 35, 36, 37, 38, 39] (by decide +kernel) (by decide +kernel)
set_option maxRecDepth 20000 in
theorem gX2_useWater_X4_needAt : GoodIn wsX2_useWater (wsV RX2 105 RX4 yX4_needAt wsX4_needAt) := goodIn_app (goodIn_of _ (by decide +kernel)) ggX2_useWater_X4_needAt
theorem dX2_useWater_0 : decode cX2_useWater 0 = .ok (.aload_n 1, 1) := by decide +kernel
theorem dX2_useWater_1 : decode cX2_useWater 1 = .ok (.aload_n 0, 1) := by decide +kernel
theorem dX2_useWater_2 : decode cX2_useWater 2 = .ok (.invokevirtual 94, 3) := by decide +kernel
theorem dX2_useWater_5 : decode cX2_useWater 5 = .ok (.invokevirtual 105, 3) := by decide +kernel
theorem dX2_useWater_8 : decode cX2_useWater 8 = .ok (.istore_n 3, 1) := by decide +kernel
theorem dX2_useWater_9 : decode cX2_useWater 9 = .ok (.iload_n 2, 1) := by decide +kernel
theorem dX2_useWater_10 : decode cX2_useWater 10 = .ok (.aload_n 1, 1) := by decide +kernel
theorem dX2_useWater_11 : decode cX2_useWater 11 = .ok (.getfield 140, 3) := by decide +kernel
theorem dX2_useWater_14 : decode cX2_useWater 14 = .ok (.iadd, 1) := by decide +kernel
theorem dX2_useWater_15 : decode cX2_useWater 15 = .ok (.istore 4, 2) := by decide +kernel
theorem dX2_useWater_17 : decode cX2_useWater 17 = .ok (.iload_n 3, 1) := by decide +kernel
theorem dX2_useWater_18 : decode cX2_useWater 18 = .ok (.iload 4, 2) := by decide +kernel
theorem dX2_useWater_20 : decode cX2_useWater 20 = .ok (.invokestatic 115, 3) := by decide +kernel
theorem dX2_useWater_23 : decode cX2_useWater 23 = .ok (.istore 5, 2) := by decide +kernel
theorem dX2_useWater_25 : decode cX2_useWater 25 = .ok (.aload_n 1, 1) := by decide +kernel
theorem dX2_useWater_26 : decode cX2_useWater 26 = .ok (.getfield 143, 3) := by decide +kernel
theorem dX2_useWater_29 : decode cX2_useWater 29 = .ok (.iload 4, 2) := by decide +kernel
theorem dX2_useWater_31 : decode cX2_useWater 31 = .ok (.iload 5, 2) := by decide +kernel
theorem dX2_useWater_33 : decode cX2_useWater 33 = .ok (.isub, 1) := by decide +kernel
theorem dX2_useWater_34 : decode cX2_useWater 34 = .ok (.invokestatic 115, 3) := by decide +kernel
theorem dX2_useWater_37 : decode cX2_useWater 37 = .ok (.istore 6, 2) := by decide +kernel
theorem dX2_useWater_39 : decode cX2_useWater 39 = .ok (.aload_n 1, 1) := by decide +kernel
theorem dX2_useWater_40 : decode cX2_useWater 40 = .ok (.iload 4, 2) := by decide +kernel
theorem dX2_useWater_42 : decode cX2_useWater 42 = .ok (.iload 5, 2) := by decide +kernel
theorem dX2_useWater_44 : decode cX2_useWater 44 = .ok (.isub, 1) := by decide +kernel
theorem dX2_useWater_45 : decode cX2_useWater 45 = .ok (.iload 6, 2) := by decide +kernel
theorem dX2_useWater_47 : decode cX2_useWater 47 = .ok (.isub, 1) := by decide +kernel
theorem dX2_useWater_48 : decode cX2_useWater 48 = .ok (.putfield 140, 3) := by decide +kernel
theorem dX2_useWater_51 : decode cX2_useWater 51 = .ok (.aload_n 1, 1) := by decide +kernel
theorem dX2_useWater_52 : decode cX2_useWater 52 = .ok (.dup, 1) := by decide +kernel
theorem dX2_useWater_53 : decode cX2_useWater 53 = .ok (.getfield 146, 3) := by decide +kernel
theorem dX2_useWater_56 : decode cX2_useWater 56 = .ok (.iload_n 3, 1) := by decide +kernel
theorem dX2_useWater_57 : decode cX2_useWater 57 = .ok (.iload 5, 2) := by decide +kernel
theorem dX2_useWater_59 : decode cX2_useWater 59 = .ok (.isub, 1) := by decide +kernel
theorem dX2_useWater_60 : decode cX2_useWater 60 = .ok (.iadd, 1) := by decide +kernel
theorem dX2_useWater_61 : decode cX2_useWater 61 = .ok (.putfield 146, 3) := by decide +kernel
theorem dX2_useWater_64 : decode cX2_useWater 64 = .ok (.aload_n 1, 1) := by decide +kernel
theorem dX2_useWater_65 : decode cX2_useWater 65 = .ok (.iconst 0, 1) := by decide +kernel
theorem dX2_useWater_66 : decode cX2_useWater 66 = .ok (.putfield 101, 3) := by decide +kernel
theorem dX2_useWater_69 : decode cX2_useWater 69 = .ok (.aload_n 0, 1) := by decide +kernel
theorem dX2_useWater_70 : decode cX2_useWater 70 = .ok (.getfield 30, 3) := by decide +kernel
theorem dX2_useWater_73 : decode cX2_useWater 73 = .ok (.iconst 3, 1) := by decide +kernel
theorem dX2_useWater_74 : decode cX2_useWater 74 = .ok (.dup2, 1) := by decide +kernel
theorem dX2_useWater_75 : decode cX2_useWater 75 = .ok (.iaload, 1) := by decide +kernel
theorem dX2_useWater_76 : decode cX2_useWater 76 = .ok (.iload_n 2, 1) := by decide +kernel
theorem dX2_useWater_77 : decode cX2_useWater 77 = .ok (.iadd, 1) := by decide +kernel
theorem dX2_useWater_78 : decode cX2_useWater 78 = .ok (.iastore, 1) := by decide +kernel
theorem dX2_useWater_79 : decode cX2_useWater 79 = .ok (.aload_n 0, 1) := by decide +kernel
theorem dX2_useWater_80 : decode cX2_useWater 80 = .ok (.getfield 30, 3) := by decide +kernel
theorem dX2_useWater_83 : decode cX2_useWater 83 = .ok (.iconst 4, 1) := by decide +kernel
theorem dX2_useWater_84 : decode cX2_useWater 84 = .ok (.dup2, 1) := by decide +kernel
theorem dX2_useWater_85 : decode cX2_useWater 85 = .ok (.iaload, 1) := by decide +kernel
theorem dX2_useWater_86 : decode cX2_useWater 86 = .ok (.iload 5, 2) := by decide +kernel
theorem dX2_useWater_88 : decode cX2_useWater 88 = .ok (.iadd, 1) := by decide +kernel
theorem dX2_useWater_89 : decode cX2_useWater 89 = .ok (.iastore, 1) := by decide +kernel
theorem dX2_useWater_90 : decode cX2_useWater 90 = .ok (.aload_n 0, 1) := by decide +kernel
theorem dX2_useWater_91 : decode cX2_useWater 91 = .ok (.getfield 30, 3) := by decide +kernel
theorem dX2_useWater_94 : decode cX2_useWater 94 = .ok (.iconst 5, 1) := by decide +kernel
theorem dX2_useWater_95 : decode cX2_useWater 95 = .ok (.dup2, 1) := by decide +kernel
theorem dX2_useWater_96 : decode cX2_useWater 96 = .ok (.iaload, 1) := by decide +kernel
theorem dX2_useWater_97 : decode cX2_useWater 97 = .ok (.iload 6, 2) := by decide +kernel
theorem dX2_useWater_99 : decode cX2_useWater 99 = .ok (.iadd, 1) := by decide +kernel
theorem dX2_useWater_100 : decode cX2_useWater 100 = .ok (.iastore, 1) := by decide +kernel
theorem dX2_useWater_101 : decode cX2_useWater 101 = .ok (.aload_n 0, 1) := by decide +kernel
theorem dX2_useWater_102 : decode cX2_useWater 102 = .ok (.getfield 30, 3) := by decide +kernel
theorem dX2_useWater_105 : decode cX2_useWater 105 = .ok (.bipush 6, 2) := by decide +kernel
theorem dX2_useWater_107 : decode cX2_useWater 107 = .ok (.dup2, 1) := by decide +kernel
theorem dX2_useWater_108 : decode cX2_useWater 108 = .ok (.iaload, 1) := by decide +kernel
theorem dX2_useWater_109 : decode cX2_useWater 109 = .ok (.iload_n 3, 1) := by decide +kernel
theorem dX2_useWater_110 : decode cX2_useWater 110 = .ok (.iload 5, 2) := by decide +kernel
theorem dX2_useWater_112 : decode cX2_useWater 112 = .ok (.isub, 1) := by decide +kernel
theorem dX2_useWater_113 : decode cX2_useWater 113 = .ok (.iadd, 1) := by decide +kernel
theorem dX2_useWater_114 : decode cX2_useWater 114 = .ok (.iastore, 1) := by decide +kernel
theorem dX2_useWater_115 : decode cX2_useWater 115 = .ok (.return_, 1) := by decide +kernel
theorem dX3_init_0 : decode cX3_init 0 = .ok (.aload_n 0, 1) := by decide +kernel
theorem dX3_init_1 : decode cX3_init 1 = .ok (.invokespecial 3, 3) := by decide +kernel
theorem dX3_init_4 : decode cX3_init 4 = .ok (.aload_n 0, 1) := by decide +kernel
theorem dX3_init_5 : decode cX3_init 5 = .ok (.bipush (-105), 2) := by decide +kernel
theorem dX3_init_7 : decode cX3_init 7 = .ok (.putfield 9, 3) := by decide +kernel
theorem dX3_init_10 : decode cX3_init 10 = .ok (.aload_n 0, 1) := by decide +kernel
theorem dX3_init_11 : decode cX3_init 11 = .ok (.bipush 100, 2) := by decide +kernel
theorem dX3_init_13 : decode cX3_init 13 = .ok (.newarray .char, 2) := by decide +kernel
theorem dX3_init_15 : decode cX3_init 15 = .ok (.putfield 15, 3) := by decide +kernel
theorem dX3_init_18 : decode cX3_init 18 = .ok (.return_, 1) := by decide +kernel
theorem dX3_isFull_0 : decode cX3_isFull 0 = .ok (.aload_n 0, 1) := by decide +kernel
theorem dX3_isFull_1 : decode cX3_isFull 1 = .ok (.getfield 19, 3) := by decide +kernel
theorem dX3_isFull_4 : decode cX3_isFull 4 = .ok (.bipush 100, 2) := by decide +kernel
theorem dX3_isFull_6 : decode cX3_isFull 6 = .ok (.if_icmp .lt 7, 3) := by decide +kernel
theorem dX3_isFull_9 : decode cX3_isFull 9 = .ok (.iconst 1, 1) := by decide +kernel
theorem dX3_isFull_10 : decode cX3_isFull 10 = .ok (.goto 4, 3) := by decide +kernel
theorem dX3_isFull_13 : decode cX3_isFull 13 = .ok (.iconst 0, 1) := by decide +kernel
theorem dX3_isFull_14 : decode cX3_isFull 14 = .ok (.ireturn, 1) := by decide +kernel
set_option maxRecDepth 20000 in
theorem ggX3_put_X3_isFull : GoodIn wsX3_put wsX3_isFull := goodIn_r _ [7, 2, 8, 9, 10, 11, 12] (by decide +kernel) (by decide +kernel)
set_option maxRecDepth 20000 in
theorem gX3_put_X3_isFull : GoodIn wsX3_put (wsV RX3 22 RX3 yX3_isFull wsX3_isFull) := goodIn_app (goodIn_of _ (by decide +kernel)) ggX3_put_X3_isFull
theorem dX3_put_0 : decode cX3_put 0 = .ok (.aload_n 0, 1) := by decide +kernel
theorem dX3_put_1 : decode cX3_put 1 = .ok (.invokevirtual 22, 3) := by decide +kernel
theorem dX3_put_4 : decode cX3_put 4 = .ok (.ifCond .eq 4, 3) := by decide +kernel
theorem dX3_put_7 : decode cX3_put 7 = .ok (.return_, 1) := by decide +kernel
theorem dX3_put_8 : decode cX3_put 8 = .ok (.aload_n 0, 1) := by decide +kernel
theorem dX3_put_9 : decode cX3_put 9 = .ok (.getfield 15, 3) := by decide +kernel
theorem dX3_put_12 : decode cX3_put 12 = .ok (.aload_n 0, 1) := by decide +kernel
theorem dX3_put_13 : decode cX3_put 13 = .ok (.getfield 19, 3) := by decide +kernel
theorem dX3_put_16 : decode cX3_put 16 = .ok (.iload_n 1, 1) := by decide +kernel
theorem dX3_put_17 : decode cX3_put 17 = .ok (.i2c, 1) := by decide +kernel
theorem dX3_put_18 : decode cX3_put 18 = .ok (.castore, 1) := by decide +kernel
theorem dX3_put_19 : decode cX3_put 19 = .ok (.aload_n 0, 1) := by decide +kernel
theorem dX3_put_20 : decode cX3_put 20 = .ok (.dup, 1) := by decide +kernel
theorem dX3_put_21 : decode cX3_put 21 = .ok (.getfield 19, 3) := by decide +kernel
theorem dX3_put_24 : decode cX3_put 24 = .ok (.iconst 1, 1) := by decide +kernel
theorem dX3_put_25 : decode cX3_put 25 = .ok (.iadd, 1) := by decide +kernel
theorem dX3_put_26 : decode cX3_put 26 = .ok (.putfield 19, 3) := by decide +kernel
theorem dX3_put_29 : decode cX3_put 29 = .ok (.return_, 1) := by decide +kernel
theorem dX4_init_0 : decode cX4_init 0 = .ok (.aload_n 0, 1) := by decide +kernel
theorem dX4_init_1 : decode cX4_init 1 = .ok (.invokespecial 1, 3) := by decide +kernel
theorem dX4_init_4 : decode cX4_init 4 = .ok (.return_, 1) := by decide +kernel
theorem dX4_begin_0 : decode cX4_begin 0 = .ok (.aload_n 0, 1) := by decide +kernel
theorem dX4_begin_1 : decode cX4_begin 1 = .ok (.iload_n 1, 1) := by decide +kernel
theorem dX4_begin_2 : decode cX4_begin 2 = .ok (.putfield 7, 3) := by decide +kernel
theorem dX4_begin_5 : decode cX4_begin 5 = .ok (.aload_n 0, 1) := by decide +kernel
theorem dX4_begin_6 : decode cX4_begin 6 = .ok (.iload_n 2, 1) := by decide +kernel
theorem dX4_begin_7 : decode cX4_begin 7 = .ok (.putfield 13, 3) := by decide +kernel
theorem dX4_begin_10 : decode cX4_begin 10 = .ok (.aload_n 0, 1) := by decide +kernel
theorem dX4_begin_11 : decode cX4_begin 11 = .ok (.iload_n 3, 1) := by decide +kernel
theorem dX4_begin_12 : decode cX4_begin 12 = .ok (.putfield 16, 3) := by decide +kernel
theorem dX4_begin_15 : decode cX4_begin 15 = .ok (.aload_n 0, 1) := by decide +kernel
theorem dX4_begin_16 : decode cX4_begin 16 = .ok (.iconst 0, 1) := by decide +kernel
theorem dX4_begin_17 : decode cX4_begin 17 = .ok (.putfield 19, 3) := by decide +kernel
theorem dX4_begin_20 : decode cX4_begin 20 = .ok (.aload_n 0, 1) := by decide +kernel
theorem dX4_begin_21 : decode cX4_begin 21 = .ok (.iconst 0, 1) := by decide +kernel
theorem dX4_begin_22 : decode cX4_begin 22 = .ok (.putfield 22, 3) := by decide +kernel
theorem dX4_begin_25 : decode cX4_begin 25 = .ok (.aload_n 0, 1) := by decide +kernel
theorem dX4_begin_26 : decode cX4_begin 26 = .ok (.iconst 0, 1) := by decide +kernel
theorem dX4_begin_27 : decode cX4_begin 27 = .ok (.putfield 25, 3) := by decide +kernel
theorem dX4_begin_30 : decode cX4_begin 30 = .ok (.aload_n 0, 1) := by decide +kernel
theorem dX4_begin_31 : decode cX4_begin 31 = .ok (.iconst 0, 1) := by decide +kernel
theorem dX4_begin_32 : decode cX4_begin 32 = .ok (.putfield 28, 3) := by decide +kernel
theorem dX4_begin_35 : decode cX4_begin 35 = .ok (.aload_n 0, 1) := by decide +kernel
theorem dX4_begin_36 : decode cX4_begin 36 = .ok (.iconst 0, 1) := by decide +kernel
theorem dX4_begin_37 : decode cX4_begin 37 = .ok (.putfield 31, 3) := by decide +kernel
theorem dX4_begin_40 : decode cX4_begin 40 = .ok (.aload_n 0, 1) := by decide +kernel
theorem dX4_begin_41 : decode cX4_begin 41 = .ok (.iconst 0, 1) := by decide +kernel
theorem dX4_begin_42 : decode cX4_begin 42 = .ok (.putfield 34, 3) := by decide +kernel
theorem dX4_begin_45 : decode cX4_begin 45 = .ok (.aload_n 0, 1) := by decide +kernel
theorem dX4_begin_46 : decode cX4_begin 46 = .ok (.iconst 0, 1) := by decide +kernel
theorem dX4_begin_47 : decode cX4_begin 47 = .ok (.putfield 37, 3) := by decide +kernel
theorem dX4_begin_50 : decode cX4_begin 50 = .ok (.aload_n 0, 1) := by decide +kernel
theorem dX4_begin_51 : decode cX4_begin 51 = .ok (.iconst 0, 1) := by decide +kernel
theorem dX4_begin_52 : decode cX4_begin 52 = .ok (.putfield 40, 3) := by decide +kernel
theorem dX4_begin_55 : decode cX4_begin 55 = .ok (.aload_n 0, 1) := by decide +kernel
theorem dX4_begin_56 : decode cX4_begin 56 = .ok (.iconst 0, 1) := by decide +kernel
theorem dX4_begin_57 : decode cX4_begin 57 = .ok (.putfield 43, 3) := by decide +kernel
theorem dX4_begin_60 : decode cX4_begin 60 = .ok (.return_, 1) := by decide +kernel
set_option maxRecDepth 20000 in
theorem ggX4_copyFrom_X4_begin : GoodIn wsX4_copyFrom wsX4_begin := goodIn_r _ [17, 1, 2, 3, 4, 5, 6, 7, 8, 9, 10, 11, 12, 18, 19, 20, 21, 22, 23, 24, 25, 26, 27, 28, 29] (by decide +kernel) (by decide +kernel)
set_option maxRecDepth 20000 in
theorem gX4_copyFrom_X4_begin : GoodIn wsX4_copyFrom (wsV RX4 47 RX4 yX4_begin wsX4_begin) := goodIn_app (goodIn_of _ (by decide +kernel)) ggX4_copyFrom_X4_begin
theorem dX4_copyFrom_0 : decode cX4_copyFrom 0 = .ok (.aload_n 0, 1) := by decide +kernel
theorem dX4_copyFrom_1 : decode cX4_copyFrom 1 = .ok (.aload_n 1, 1) := by decide +kernel
theorem dX4_copyFrom_2 : decode cX4_copyFrom 2 = .ok (.getfield 7, 3) := by decide +kernel
theorem dX4_copyFrom_5 : decode cX4_copyFrom 5 = .ok (.aload_n 1, 1) := by decide +kernel
theorem dX4_copyFrom_6 : decode cX4_copyFrom 6 = .ok (.getfield 13, 3) := by decide +kernel
theorem dX4_copyFrom_9 : decode cX4_copyFrom 9 = .ok (.aload_n 1, 1) := by decide +kernel
theorem dX4_copyFrom_10 : decode cX4_copyFrom 10 = .ok (.getfield 16, 3) := by decide +kernel
theorem dX4_copyFrom_13 : decode cX4_copyFrom 13 = .ok (.invokevirtual 47, 3) := by decide +kernel
theorem dX4_copyFrom_16 : decode cX4_copyFrom 16 = .ok (.aload_n 0, 1) := by decide +kernel
theorem dX4_copyFrom_17 : decode cX4_copyFrom 17 = .ok (.aload_n 1, 1) := by decide +kernel
theorem dX4_copyFrom_18 : decode cX4_copyFrom 18 = .ok (.getfield 19, 3) := by decide +kernel
theorem dX4_copyFrom_21 : decode cX4_copyFrom 21 = .ok (.putfield 19, 3) := by decide +kernel
theorem dX4_copyFrom_24 : decode cX4_copyFrom 24 = .ok (.aload_n 0, 1) := by decide +kernel
theorem dX4_copyFrom_25 : decode cX4_copyFrom 25 = .ok (.aload_n 1, 1) := by decide +kernel
theorem dX4_copyFrom_26 : decode cX4_copyFrom 26 = .ok (.getfield 22, 3) := by decide +kernel
theorem dX4_copyFrom_29 : decode cX4_copyFrom 29 = .ok (.putfield 22, 3) := by decide +kernel
theorem dX4_copyFrom_32 : decode cX4_copyFrom 32 = .ok (.aload_n 0, 1) := by decide +kernel
theorem dX4_copyFrom_33 : decode cX4_copyFrom 33 = .ok (.aload_n 1, 1) := by decide +kernel
theorem dX4_copyFrom_34 : decode cX4_copyFrom 34 = .ok (.getfield 25, 3) := by decide +kernel
theorem dX4_copyFrom_37 : decode cX4_copyFrom 37 = .ok (.putfield 25, 3) := by decide +kernel
theorem dX4_copyFrom_40 : decode cX4_copyFrom 40 = .ok (.aload_n 0, 1) := by decide +kernel
theorem dX4_copyFrom_41 : decode cX4_copyFrom 41 = .ok (.aload_n 1, 1) := by decide +kernel
theorem dX4_copyFrom_42 : decode cX4_copyFrom 42 = .ok (.getfield 28, 3) := by decide +kernel
theorem dX4_copyFrom_45 : decode cX4_copyFrom 45 = .ok (.putfield 28, 3) := by decide +kernel
theorem dX4_copyFrom_48 : decode cX4_copyFrom 48 = .ok (.aload_n 0, 1) := by decide +kernel
theorem dX4_copyFrom_49 : decode cX4_copyFrom 49 = .ok (.aload_n 1, 1) := by decide +kernel
theorem dX4_copyFrom_50 : decode cX4_copyFrom 50 = .ok (.getfield 31, 3) := by decide +kernel
theorem dX4_copyFrom_53 : decode cX4_copyFrom 53 = .ok (.putfield 31, 3) := by decide +kernel
theorem dX4_copyFrom_56 : decode cX4_copyFrom 56 = .ok (.aload_n 0, 1) := by decide +kernel
theorem dX4_copyFrom_57 : decode cX4_copyFrom 57 = .ok (.aload_n 1, 1) := by decide +kernel
theorem dX4_copyFrom_58 : decode cX4_copyFrom 58 = .ok (.getfield 34, 3) := by decide +kernel
theorem dX4_copyFrom_61 : decode cX4_copyFrom 61 = .ok (.putfield 34, 3) := by decide +kernel
theorem dX4_copyFrom_64 : decode cX4_copyFrom 64 = .ok (.aload_n 0, 1) := by decide +kernel
theorem dX4_copyFrom_65 : decode cX4_copyFrom 65 = .ok (.aload_n 1, 1) := by decide +kernel
theorem dX4_copyFrom_66 : decode cX4_copyFrom 66 = .ok (.getfield 37, 3) := by decide +kernel
theorem dX4_copyFrom_69 : decode cX4_copyFrom 69 = .ok (.putfield 37, 3) := by decide +kernel
theorem dX4_copyFrom_72 : decode cX4_copyFrom 72 = .ok (.aload_n 0, 1) := by decide +kernel
theorem dX4_copyFrom_73 : decode cX4_copyFrom 73 = .ok (.aload_n 1, 1) := by decide +kernel
theorem dX4_copyFrom_74 : decode cX4_copyFrom 74 = .ok (.getfield 40, 3) := by decide +kernel
theorem dX4_copyFrom_77 : decode cX4_copyFrom 77 = .ok (.putfield 40, 3) := by decide +kernel
theorem dX4_copyFrom_80 : decode cX4_copyFrom 80 = .ok (.aload_n 0, 1) := by decide +kernel
theorem dX4_copyFrom_81 : decode cX4_copyFrom 81 = .ok (.aload_n 1, 1) := by decide +kernel
theorem dX4_copyFrom_82 : decode cX4_copyFrom 82 = .ok (.getfield 43, 3) := by decide +kernel
theorem dX4_copyFrom_85 : decode cX4_copyFrom 85 = .ok (.putfield 43, 3) := by decide +kernel
theorem dX4_copyFrom_88 : decode cX4_copyFrom 88 = .ok (.return_, 1) := by decide +kernel
theorem dX4_needAt_0 : decode cX4_needAt 0 = .ok (.iload_n 1, 1) := by decide +kernel
theorem dX4_needAt_1 : decode cX4_needAt 1 = .ok (.aload_n 0, 1) := by decide +kernel
theorem dX4_needAt_2 : decode cX4_needAt 2 = .ok (.getfield 22, 3) := by decide +kernel
theorem dX4_needAt_5 : decode cX4_needAt 5 = .ok (.if_icmp .lt 18, 3) := by decide +kernel
theorem dX4_needAt_8 : decode cX4_needAt 8 = .ok (.iload_n 1, 1) := by decide +kernel
theorem dX4_needAt_9 : decode cX4_needAt 9 = .ok (.aload_n 0, 1) := by decide +kernel
theorem dX4_needAt_10 : decode cX4_needAt 10 = .ok (.getfield 25, 3) := by decide +kernel
theorem dX4_needAt_13 : decode cX4_needAt 13 = .ok (.if_icmp .ge 10, 3) := by decide +kernel
theorem dX4_needAt_16 : decode cX4_needAt 16 = .ok (.aload_n 0, 1) := by decide +kernel
theorem dX4_needAt_17 : decode cX4_needAt 17 = .ok (.getfield 19, 3) := by decide +kernel
theorem dX4_needAt_20 : decode cX4_needAt 20 = .ok (.goto 4, 3) := by decide +kernel
theorem dX4_needAt_23 : decode cX4_needAt 23 = .ok (.iconst 0, 1) := by decide +kernel
theorem dX4_needAt_24 : decode cX4_needAt 24 = .ok (.ireturn, 1) := by decide +kernel
theorem dX4_room_0 : decode cX4_room 0 = .ok (.aload_n 0, 1) := by decide +kernel
theorem dX4_room_1 : decode cX4_room 1 = .ok (.getfield 28, 3) := by decide +kernel
theorem dX4_room_4 : decode cX4_room 4 = .ok (.aload_n 0, 1) := by decide +kernel
theorem dX4_room_5 : decode cX4_room 5 = .ok (.getfield 31, 3) := by decide +kernel
theorem dX4_room_8 : decode cX4_room 8 = .ok (.isub, 1) := by decide +kernel
theorem dX4_room_9 : decode cX4_room 9 = .ok (.ireturn, 1) := by decide +kernel
set_option maxRecDepth 20000 in
theorem ggX5_init_X2_init : GoodIn wsX5_init wsX2_init := goodIn_r _ [22, 23, 2, 3, 24, 25, 26, 27, 28, 29, 30, 31, 32, 33, 34, 35, 36, 37, 38, 39, 40, 41, 42, 43, 44, 45, 46, 6, 47, 48, 49, 50, 51, 52, 53, 54, 55, 56, 57, 58, 59, 60, 61, 62, 63, 64, 65, 66, 67, 82, 83, 84, 85, 86, 87, 88, 89, 90, 91, 109, 110, 111, 112, 113, 114, 115, 116, 117, 118, 119, 120, 121, 122, 123] (by decide +kernel) (by decide +kernel)
set_option maxRecDepth 20000 in
theorem gX5_init_X2_init : GoodIn wsX5_init (wsX2_init) := ggX5_init_X2_init
set_option maxRecDepth 20000 in
theorem ggX5_init_X1_init : GoodIn wsX5_init wsX1_init := goodIn_r _ [69, 70, 2, 3, 28, 71, 72, 73, 74, 75, 98, 99, 100, 101, 102, 103] (by decide +kernel) (by decide +kernel)
set_option maxRecDepth 20000 in
theorem gX5_init_X1_init_n29 : GoodIn wsX5_init (wsX1_init) := ggX5_init_X1_init
set_option maxRecDepth 20000 in
theorem ggX5_init_X3_init : GoodIn wsX5_init wsX3_init := goodIn_r _ [77, 78, 2, 3, 79, 80, 81, 104, 105, 106, 107, 108] (by decide +kernel) (by decide +kernel)
set_option maxRecDepth 20000 in
theorem gX5_init_X3_init_n36 : GoodIn wsX5_init (wsX3_init) := ggX5_init_X3_init
theorem dX5_init_0 : decode cX5_init 0 = .ok (.aload_n 0, 1) := by decide +kernel
theorem dX5_init_1 : decode cX5_init 1 = .ok (.invokespecial 1, 3) := by decide +kernel
theorem dX5_init_4 : decode cX5_init 4 = .ok (.aload_n 0, 1) := by decide +kernel
theorem dX5_init_5 : decode cX5_init 5 = .ok (.new 7, 3) := by decide +kernel
theorem dX5_init_8 : decode cX5_init 8 = .ok (.dup, 1) := by decide +kernel
theorem dX5_init_9 : decode cX5_init 9 = .ok (.invokespecial 9, 3) := by decide +kernel
theorem dX5_init_12 : decode cX5_init 12 = .ok (.putfield 10, 3) := by decide +kernel
theorem dX5_init_15 : decode cX5_init 15 = .ok (.aload_n 0, 1) := by decide +kernel
theorem dX5_init_16 : decode cX5_init 16 = .ok (.new 7, 3) := by decide +kernel
theorem dX5_init_19 : decode cX5_init 19 = .ok (.dup, 1) := by decide +kernel
theorem dX5_init_20 : decode cX5_init 20 = .ok (.invokespecial 9, 3) := by decide +kernel
theorem dX5_init_23 : decode cX5_init 23 = .ok (.putfield 16, 3) := by decide +kernel
theorem dX5_init_26 : decode cX5_init 26 = .ok (.aload_n 0, 1) := by decide +kernel
theorem dX5_init_27 : decode cX5_init 27 = .ok (.iconst 2, 1) := by decide +kernel
theorem dX5_init_28 : decode cX5_init 28 = .ok (.anewarray 7, 3) := by decide +kernel
theorem dX5_init_31 : decode cX5_init 31 = .ok (.dup, 1) := by decide +kernel
theorem dX5_init_32 : decode cX5_init 32 = .ok (.iconst 0, 1) := by decide +kernel
theorem dX5_init_33 : decode cX5_init 33 = .ok (.new 7, 3) := by decide +kernel
theorem dX5_init_36 : decode cX5_init 36 = .ok (.dup, 1) := by decide +kernel
theorem dX5_init_37 : decode cX5_init 37 = .ok (.invokespecial 9, 3) := by decide +kernel
theorem dX5_init_40 : decode cX5_init 40 = .ok (.aastore, 1) := by decide +kernel
theorem dX5_init_41 : decode cX5_init 41 = .ok (.dup, 1) := by decide +kernel
theorem dX5_init_42 : decode cX5_init 42 = .ok (.iconst 1, 1) := by decide +kernel
theorem dX5_init_43 : decode cX5_init 43 = .ok (.new 7, 3) := by decide +kernel
theorem dX5_init_46 : decode cX5_init 46 = .ok (.dup, 1) := by decide +kernel
theorem dX5_init_47 : decode cX5_init 47 = .ok (.invokespecial 9, 3) := by decide +kernel
theorem dX5_init_50 : decode cX5_init 50 = .ok (.aastore, 1) := by decide +kernel
theorem dX5_init_51 : decode cX5_init 51 = .ok (.putfield 19, 3) := by decide +kernel
theorem dX5_init_54 : decode cX5_init 54 = .ok (.aload_n 0, 1) := by decide +kernel
theorem dX5_init_55 : decode cX5_init 55 = .ok (.iconst 2, 1) := by decide +kernel
theorem dX5_init_56 : decode cX5_init 56 = .ok (.newarray .boolean, 2) := by decide +kernel
theorem dX5_init_58 : decode cX5_init 58 = .ok (.putfield 23, 3) := by decide +kernel
theorem dX5_init_61 : decode cX5_init 61 = .ok (.aload_n 0, 1) := by decide +kernel
theorem dX5_init_62 : decode cX5_init 62 = .ok (.new 27, 3) := by decide +kernel
theorem dX5_init_65 : decode cX5_init 65 = .ok (.dup, 1) := by decide +kernel
theorem dX5_init_66 : decode cX5_init 66 = .ok (.invokespecial 29, 3) := by decide +kernel
theorem dX5_init_69 : decode cX5_init 69 = .ok (.putfield 30, 3) := by decide +kernel
theorem dX5_init_72 : decode cX5_init 72 = .ok (.aload_n 0, 1) := by decide +kernel
theorem dX5_init_73 : decode cX5_init 73 = .ok (.new 34, 3) := by decide +kernel
theorem dX5_init_76 : decode cX5_init 76 = .ok (.dup, 1) := by decide +kernel
theorem dX5_init_77 : decode cX5_init 77 = .ok (.invokespecial 36, 3) := by decide +kernel
theorem dX5_init_80 : decode cX5_init 80 = .ok (.putfield 37, 3) := by decide +kernel
theorem dX5_init_83 : decode cX5_init 83 = .ok (.return_, 1) := by decide +kernel
set_option maxRecDepth 20000 in
theorem ggX5_addDitch_X2_hasDitch : GoodIn wsX5_addDitch wsX2_hasDitch := goodIn_r _ [7, 8, 40, 41, 42, 43, 44, 45, 46, 47, 48, 49] (by decide +kernel) (by decide +kernel)
set_option maxRecDepth 20000 in
theorem gX5_addDitch_X2_hasDitch : GoodIn wsX5_addDitch (wsV RX5 41 RX2 yX2_hasDitch wsX2_hasDitch) := goodIn_app (goodIn_of _ (by decide +kernel)) ggX5_addDitch_X2_hasDitch
set_option maxRecDepth 20000 in
theorem ggX5_addDitch_X5_areGateAndLoss : GoodIn wsX5_addDitch wsX5_areGateAndLoss := goodIn_r _ [12, 13, 14, 11, 15] (by decide +kernel) (by decide +kernel)
set_option maxRecDepth 20000 in
theorem gX5_addDitch_X5_areGateAndLoss : GoodIn wsX5_addDitch (va_wsS RX5 45 yX5_areGateAndLoss wsX5_areGateAndLoss) := goodIn_app (goodIn_of _ (by decide +kernel)) ggX5_addDitch_X5_areGateAndLoss
set_option maxRecDepth 20000 in
theorem ggX5_addDitch_X2_hasRoomForDitch : GoodIn wsX5_addDitch wsX2_hasRoomForDitch := goodIn_r _ [19, 8, 40, 41, 42, 43, 44, 45, 46, 47, 48, 49] (by decide +kernel) (by decide +kernel)
set_option maxRecDepth 20000 in
theorem gX5_addDitch_X2_hasRoomForDitch : GoodIn wsX5_addDitch (wsV RX5 49 RX2 yX2_hasRoomForDitch wsX2_hasRoomForDitch) := goodIn_app (goodIn_of _ (by decide +kernel)) ggX5_addDitch_X2_hasRoomForDitch
set_option maxRecDepth 20000 in
theorem ggX5_addDitch_X2_putDitch : GoodIn wsX5_addDitch wsX2_putDitch := goodIn_r _ [23, 24, 8, 25, 17, 18, 6, 19, 26, 27, 28, 29, 30, 31, 32, 33, 40, 41, 42, 43, 44, 45, 46, 47, 48, 49, 50, 51, 52] (by decide +kernel) (by decide +kernel)
set_option maxRecDepth 20000 in
theorem gX5_addDitch_X2_putDitch : GoodIn wsX5_addDitch (wsV RX5 53 RX2 yX2_putDitch wsX2_putDitch) := goodIn_app (goodIn_of _ (by decide +kernel)) ggX5_addDitch_X2_putDitch
theorem dX5_addDitch_0 : decode cX5_addDitch 0 = .ok (.aload_n 0, 1) := by decide +kernel
theorem dX5_addDitch_1 : decode cX5_addDitch 1 = .ok (.getfield 10, 3) := by decide +kernel
theorem dX5_addDitch_4 : decode cX5_addDitch 4 = .ok (.iload_n 1, 1) := by decide +kernel
theorem dX5_addDitch_5 : decode cX5_addDitch 5 = .ok (.invokevirtual 41, 3) := by decide +kernel
theorem dX5_addDitch_8 : decode cX5_addDitch 8 = .ok (.ifCond .ne 6, 3) := by decide +kernel
theorem dX5_addDitch_11 : decode cX5_addDitch 11 = .ok (.bipush (-101), 2) := by decide +kernel
theorem dX5_addDitch_13 : decode cX5_addDitch 13 = .ok (.ireturn, 1) := by decide +kernel
theorem dX5_addDitch_14 : decode cX5_addDitch 14 = .ok (.iload_n 2, 1) := by decide +kernel
theorem dX5_addDitch_15 : decode cX5_addDitch 15 = .ok (.iload_n 3, 1) := by decide +kernel
theorem dX5_addDitch_16 : decode cX5_addDitch 16 = .ok (.invokestatic 45, 3) := by decide +kernel
theorem dX5_addDitch_19 : decode cX5_addDitch 19 = .ok (.ifCond .ne 6, 3) := by decide +kernel
theorem dX5_addDitch_22 : decode cX5_addDitch 22 = .ok (.bipush (-102), 2) := by decide +kernel
theorem dX5_addDitch_24 : decode cX5_addDitch 24 = .ok (.ireturn, 1) := by decide +kernel
theorem dX5_addDitch_25 : decode cX5_addDitch 25 = .ok (.aload_n 0, 1) := by decide +kernel
theorem dX5_addDitch_26 : decode cX5_addDitch 26 = .ok (.getfield 10, 3) := by decide +kernel
theorem dX5_addDitch_29 : decode cX5_addDitch 29 = .ok (.invokevirtual 49, 3) := by decide +kernel
theorem dX5_addDitch_32 : decode cX5_addDitch 32 = .ok (.ifCond .ne 6, 3) := by decide +kernel
theorem dX5_addDitch_35 : decode cX5_addDitch 35 = .ok (.bipush (-104), 2) := by decide +kernel
theorem dX5_addDitch_37 : decode cX5_addDitch 37 = .ok (.ireturn, 1) := by decide +kernel
theorem dX5_addDitch_38 : decode cX5_addDitch 38 = .ok (.aload_n 0, 1) := by decide +kernel
theorem dX5_addDitch_39 : decode cX5_addDitch 39 = .ok (.getfield 10, 3) := by decide +kernel
theorem dX5_addDitch_42 : decode cX5_addDitch 42 = .ok (.iload_n 1, 1) := by decide +kernel
theorem dX5_addDitch_43 : decode cX5_addDitch 43 = .ok (.iload_n 2, 1) := by decide +kernel
theorem dX5_addDitch_44 : decode cX5_addDitch 44 = .ok (.iload_n 3, 1) := by decide +kernel
theorem dX5_addDitch_45 : decode cX5_addDitch 45 = .ok (.invokevirtual 53, 3) := by decide +kernel
theorem dX5_addDitch_48 : decode cX5_addDitch 48 = .ok (.aload_n 0, 1) := by decide +kernel
theorem dX5_addDitch_49 : decode cX5_addDitch 49 = .ok (.getfield 10, 3) := by decide +kernel
theorem dX5_addDitch_52 : decode cX5_addDitch 52 = .ok (.getfield 57, 3) := by decide +kernel
theorem dX5_addDitch_55 : decode cX5_addDitch 55 = .ok (.iconst 1, 1) := by decide +kernel
theorem dX5_addDitch_56 : decode cX5_addDitch 56 = .ok (.isub, 1) := by decide +kernel
theorem dX5_addDitch_57 : decode cX5_addDitch 57 = .ok (.ireturn, 1) := by decide +kernel
set_option maxRecDepth 20000 in
theorem ggX5_setDitch_X2_hasDitch : GoodIn wsX5_setDitch wsX2_hasDitch := goodIn_r _ [9, 10, 24, 25, 26, 27, 28, 29, 30, 31, 32, 33] (by decide +kernel) (by decide +kernel)
set_option maxRecDepth 20000 in
theorem gX5_setDitch_X2_hasDitch : GoodIn wsX5_setDitch (wsV RX5 41 RX2 yX2_hasDitch wsX2_hasDitch) := goodIn_app (goodIn_of _ (by decide +kernel)) ggX5_setDitch_X2_hasDitch
set_option maxRecDepth 20000 in
theorem ggX5_setDitch_X5_areGateAndLoss : GoodIn wsX5_setDitch wsX5_areGateAndLoss := goodIn_r _ [14, 15, 16, 13, 17] (by decide +kernel) (by decide +kernel)
set_option maxRecDepth 20000 in
theorem gX5_setDitch_X5_areGateAndLoss : GoodIn wsX5_setDitch (va_wsS RX5 45 yX5_areGateAndLoss wsX5_areGateAndLoss) := goodIn_app (goodIn_of _ (by decide +kernel)) ggX5_setDitch_X5_areGateAndLoss
theorem dX5_setDitch_0 : decode cX5_setDitch 0 = .ok (.aload_n 0, 1) := by decide +kernel
theorem dX5_setDitch_1 : decode cX5_setDitch 1 = .ok (.getfield 10, 3) := by decide +kernel
theorem dX5_setDitch_4 : decode cX5_setDitch 4 = .ok (.iload_n 1, 1) := by decide +kernel
theorem dX5_setDitch_5 : decode cX5_setDitch 5 = .ok (.invokevirtual 41, 3) := by decide +kernel
theorem dX5_setDitch_8 : decode cX5_setDitch 8 = .ok (.ifCond .ne 6, 3) := by decide +kernel
theorem dX5_setDitch_11 : decode cX5_setDitch 11 = .ok (.bipush (-101), 2) := by decide +kernel
theorem dX5_setDitch_13 : decode cX5_setDitch 13 = .ok (.ireturn, 1) := by decide +kernel
theorem dX5_setDitch_14 : decode cX5_setDitch 14 = .ok (.iload_n 2, 1) := by decide +kernel
theorem dX5_setDitch_15 : decode cX5_setDitch 15 = .ok (.iload_n 3, 1) := by decide +kernel
theorem dX5_setDitch_16 : decode cX5_setDitch 16 = .ok (.invokestatic 45, 3) := by decide +kernel
theorem dX5_setDitch_19 : decode cX5_setDitch 19 = .ok (.ifCond .ne 6, 3) := by decide +kernel
theorem dX5_setDitch_22 : decode cX5_setDitch 22 = .ok (.bipush (-102), 2) := by decide +kernel
theorem dX5_setDitch_24 : decode cX5_setDitch 24 = .ok (.ireturn, 1) := by decide +kernel
theorem dX5_setDitch_25 : decode cX5_setDitch 25 = .ok (.aload_n 0, 1) := by decide +kernel
theorem dX5_setDitch_26 : decode cX5_setDitch 26 = .ok (.getfield 10, 3) := by decide +kernel
theorem dX5_setDitch_29 : decode cX5_setDitch 29 = .ok (.getfield 61, 3) := by decide +kernel
theorem dX5_setDitch_32 : decode cX5_setDitch 32 = .ok (.iload_n 1, 1) := by decide +kernel
theorem dX5_setDitch_33 : decode cX5_setDitch 33 = .ok (.aaload, 1) := by decide +kernel
theorem dX5_setDitch_34 : decode cX5_setDitch 34 = .ok (.astore 4, 2) := by decide +kernel
theorem dX5_setDitch_36 : decode cX5_setDitch 36 = .ok (.aload 4, 2) := by decide +kernel
theorem dX5_setDitch_38 : decode cX5_setDitch 38 = .ok (.getfield 65, 3) := by decide +kernel
theorem dX5_setDitch_41 : decode cX5_setDitch 41 = .ok (.istore 5, 2) := by decide +kernel
theorem dX5_setDitch_43 : decode cX5_setDitch 43 = .ok (.aload 4, 2) := by decide +kernel
theorem dX5_setDitch_45 : decode cX5_setDitch 45 = .ok (.iload_n 2, 1) := by decide +kernel
theorem dX5_setDitch_46 : decode cX5_setDitch 46 = .ok (.putfield 65, 3) := by decide +kernel
theorem dX5_setDitch_49 : decode cX5_setDitch 49 = .ok (.aload 4, 2) := by decide +kernel
theorem dX5_setDitch_51 : decode cX5_setDitch 51 = .ok (.iload_n 3, 1) := by decide +kernel
theorem dX5_setDitch_52 : decode cX5_setDitch 52 = .ok (.putfield 70, 3) := by decide +kernel
theorem dX5_setDitch_55 : decode cX5_setDitch 55 = .ok (.iload 5, 2) := by decide +kernel
theorem dX5_setDitch_57 : decode cX5_setDitch 57 = .ok (.ireturn, 1) := by decide +kernel
set_option maxRecDepth 20000 in
theorem ggX5_addUser_X2_hasDitch : GoodIn wsX5_addUser wsX2_hasDitch := goodIn_r _ [7, 8, 49, 50, 51, 52, 53, 54, 55, 56, 57, 58] (by decide +kernel) (by decide +kernel)
set_option maxRecDepth 20000 in
theorem gX5_addUser_X2_hasDitch : GoodIn wsX5_addUser (wsV RX5 41 RX2 yX2_hasDitch wsX2_hasDitch) := goodIn_app (goodIn_of _ (by decide +kernel)) ggX5_addUser_X2_hasDitch
set_option maxRecDepth 20000 in
theorem ggX5_addUser_X5_isWithin : GoodIn wsX5_addUser wsX5_isWithin := goodIn_r _ [12] (by decide +kernel) (by decide +kernel)
set_option maxRecDepth 20000 in
theorem gX5_addUser_X5_isWithin : GoodIn wsX5_addUser (va_wsS RX5 73 yX5_isWithin wsX5_isWithin) := goodIn_app (goodIn_of _ (by decide +kernel)) ggX5_addUser_X5_isWithin
set_option maxRecDepth 20000 in
theorem ggX5_addUser_X2_hasRoomForUser : GoodIn wsX5_addUser wsX2_hasRoomForUser := goodIn_r _ [16, 17, 49, 50, 51, 52, 53, 54, 55, 56, 57, 58] (by decide +kernel) (by decide +kernel)
set_option maxRecDepth 20000 in
theorem gX5_addUser_X2_hasRoomForUser : GoodIn wsX5_addUser (wsV RX5 77 RX2 yX2_hasRoomForUser wsX2_hasRoomForUser) := goodIn_app (goodIn_of _ (by decide +kernel)) ggX5_addUser_X2_hasRoomForUser
set_option maxRecDepth 20000 in
theorem ggX5_addUser_X2_putUser : GoodIn wsX5_addUser wsX2_putUser := goodIn_r _ [21, 17, 22, 23, 24, 25, 14, 15, 6, 16, 26, 27, 28, 29, 30, 31, 32, 33, 34, 35, 36, 37, 38, 39, 40, 41, 42, 49, 50, 51, 52, 53, 54, 55, 56, 57, 58, 59, 60, 61, 62, 63, 64, 65, 66, 67, 68, 69, 70] (by decide +kernel) (by decide +kernel)
set_option maxRecDepth 20000 in
theorem gX5_addUser_X2_putUser : GoodIn wsX5_addUser (wsV RX5 80 RX2 yX2_putUser wsX2_putUser) := goodIn_app (goodIn_of _ (by decide +kernel)) ggX5_addUser_X2_putUser
theorem dX5_addUser_0 : decode cX5_addUser 0 = .ok (.aload_n 0, 1) := by decide +kernel
theorem dX5_addUser_1 : decode cX5_addUser 1 = .ok (.getfield 10, 3) := by decide +kernel
theorem dX5_addUser_4 : decode cX5_addUser 4 = .ok (.iload_n 1, 1) := by decide +kernel
theorem dX5_addUser_5 : decode cX5_addUser 5 = .ok (.invokevirtual 41, 3) := by decide +kernel
theorem dX5_addUser_8 : decode cX5_addUser 8 = .ok (.ifCond .ne 6, 3) := by decide +kernel
theorem dX5_addUser_11 : decode cX5_addUser 11 = .ok (.bipush (-101), 2) := by decide +kernel
theorem dX5_addUser_13 : decode cX5_addUser 13 = .ok (.ireturn, 1) := by decide +kernel
theorem dX5_addUser_14 : decode cX5_addUser 14 = .ok (.iload_n 2, 1) := by decide +kernel
theorem dX5_addUser_15 : decode cX5_addUser 15 = .ok (.sipush 1800, 3) := by decide +kernel
theorem dX5_addUser_18 : decode cX5_addUser 18 = .ok (.sipush 2099, 3) := by decide +kernel
theorem dX5_addUser_21 : decode cX5_addUser 21 = .ok (.invokestatic 73, 3) := by decide +kernel
theorem dX5_addUser_24 : decode cX5_addUser 24 = .ok (.ifCond .eq 13, 3) := by decide +kernel
theorem dX5_addUser_27 : decode cX5_addUser 27 = .ok (.iload_n 3, 1) := by decide +kernel
theorem dX5_addUser_28 : decode cX5_addUser 28 = .ok (.iconst 0, 1) := by decide +kernel
theorem dX5_addUser_29 : decode cX5_addUser 29 = .ok (.bipush 60, 2) := by decide +kernel
theorem dX5_addUser_31 : decode cX5_addUser 31 = .ok (.invokestatic 73, 3) := by decide +kernel
theorem dX5_addUser_34 : decode cX5_addUser 34 = .ok (.ifCond .ne 6, 3) := by decide +kernel
theorem dX5_addUser_37 : decode cX5_addUser 37 = .ok (.bipush (-102), 2) := by decide +kernel
theorem dX5_addUser_39 : decode cX5_addUser 39 = .ok (.ireturn, 1) := by decide +kernel
theorem dX5_addUser_40 : decode cX5_addUser 40 = .ok (.aload_n 0, 1) := by decide +kernel
theorem dX5_addUser_41 : decode cX5_addUser 41 = .ok (.getfield 10, 3) := by decide +kernel
theorem dX5_addUser_44 : decode cX5_addUser 44 = .ok (.invokevirtual 77, 3) := by decide +kernel
theorem dX5_addUser_47 : decode cX5_addUser 47 = .ok (.ifCond .ne 6, 3) := by decide +kernel
theorem dX5_addUser_50 : decode cX5_addUser 50 = .ok (.bipush (-104), 2) := by decide +kernel
theorem dX5_addUser_52 : decode cX5_addUser 52 = .ok (.ireturn, 1) := by decide +kernel
theorem dX5_addUser_53 : decode cX5_addUser 53 = .ok (.aload_n 0, 1) := by decide +kernel
theorem dX5_addUser_54 : decode cX5_addUser 54 = .ok (.getfield 10, 3) := by decide +kernel
theorem dX5_addUser_57 : decode cX5_addUser 57 = .ok (.iload_n 1, 1) := by decide +kernel
theorem dX5_addUser_58 : decode cX5_addUser 58 = .ok (.iload_n 2, 1) := by decide +kernel
theorem dX5_addUser_59 : decode cX5_addUser 59 = .ok (.iload_n 3, 1) := by decide +kernel
theorem dX5_addUser_60 : decode cX5_addUser 60 = .ok (.invokevirtual 80, 3) := by decide +kernel
theorem dX5_addUser_63 : decode cX5_addUser 63 = .ok (.aload_n 0, 1) := by decide +kernel
theorem dX5_addUser_64 : decode cX5_addUser 64 = .ok (.getfield 10, 3) := by decide +kernel
theorem dX5_addUser_67 : decode cX5_addUser 67 = .ok (.getfield 83, 3) := by decide +kernel
theorem dX5_addUser_70 : decode cX5_addUser 70 = .ok (.iconst 1, 1) := by decide +kernel
theorem dX5_addUser_71 : decode cX5_addUser 71 = .ok (.isub, 1) := by decide +kernel
theorem dX5_addUser_72 : decode cX5_addUser 72 = .ok (.ireturn, 1) := by decide +kernel
set_option maxRecDepth 20000 in
theorem ggX5_setField_X2_hasUser : GoodIn wsX5_setField wsX2_hasUser := goodIn_r _ [10, 11, 25, 26, 27, 28, 29, 30, 31, 32, 33, 34] (by decide +kernel) (by decide +kernel)
set_option maxRecDepth 20000 in
theorem gX5_setField_X2_hasUser : GoodIn wsX5_setField (wsV RX5 86 RX2 yX2_hasUser wsX2_hasUser) := goodIn_app (goodIn_of _ (by decide +kernel)) ggX5_setField_X2_hasUser
set_option maxRecDepth 20000 in
theorem ggX5_setField_X5_isWithin : GoodIn wsX5_setField wsX5_isWithin := goodIn_r _ [15] (by decide +kernel) (by decide +kernel)
set_option maxRecDepth 20000 in
theorem gX5_setField_X5_isWithin : GoodIn wsX5_setField (va_wsS RX5 73 yX5_isWithin wsX5_isWithin) := goodIn_app (goodIn_of _ (by decide +kernel)) ggX5_setField_X5_isWithin
set_option maxRecDepth 20000 in
theorem ggX5_setField_X5_areHours : GoodIn wsX5_setField wsX5_areHours := goodIn_r _ [18, 12, 13, 14, 15] (by decide +kernel) (by decide +kernel)
set_option maxRecDepth 20000 in
theorem gX5_setField_X5_areHours : GoodIn wsX5_setField (va_wsS RX5 89 yX5_areHours wsX5_areHours) := goodIn_app (goodIn_of _ (by decide +kernel)) ggX5_setField_X5_areHours
theorem dX5_setField_0 : decode cX5_setField 0 = .ok (.aload_n 0, 1) := by decide +kernel
theorem dX5_setField_1 : decode cX5_setField 1 = .ok (.getfield 10, 3) := by decide +kernel
theorem dX5_setField_4 : decode cX5_setField 4 = .ok (.iload_n 1, 1) := by decide +kernel
theorem dX5_setField_5 : decode cX5_setField 5 = .ok (.invokevirtual 86, 3) := by decide +kernel
theorem dX5_setField_8 : decode cX5_setField 8 = .ok (.ifCond .ne 6, 3) := by decide +kernel
theorem dX5_setField_11 : decode cX5_setField 11 = .ok (.bipush (-101), 2) := by decide +kernel
theorem dX5_setField_13 : decode cX5_setField 13 = .ok (.ireturn, 1) := by decide +kernel
theorem dX5_setField_14 : decode cX5_setField 14 = .ok (.iload_n 2, 1) := by decide +kernel
theorem dX5_setField_15 : decode cX5_setField 15 = .ok (.iconst 0, 1) := by decide +kernel
theorem dX5_setField_16 : decode cX5_setField 16 = .ok (.bipush 60, 2) := by decide +kernel
theorem dX5_setField_18 : decode cX5_setField 18 = .ok (.invokestatic 73, 3) := by decide +kernel
theorem dX5_setField_21 : decode cX5_setField 21 = .ok (.ifCond .eq 12, 3) := by decide +kernel
theorem dX5_setField_24 : decode cX5_setField 24 = .ok (.iload_n 3, 1) := by decide +kernel
theorem dX5_setField_25 : decode cX5_setField 25 = .ok (.iload 4, 2) := by decide +kernel
theorem dX5_setField_27 : decode cX5_setField 27 = .ok (.invokestatic 89, 3) := by decide +kernel
theorem dX5_setField_30 : decode cX5_setField 30 = .ok (.ifCond .ne 6, 3) := by decide +kernel
theorem dX5_setField_33 : decode cX5_setField 33 = .ok (.bipush (-102), 2) := by decide +kernel
theorem dX5_setField_35 : decode cX5_setField 35 = .ok (.ireturn, 1) := by decide +kernel
theorem dX5_setField_36 : decode cX5_setField 36 = .ok (.aload_n 0, 1) := by decide +kernel
theorem dX5_setField_37 : decode cX5_setField 37 = .ok (.getfield 10, 3) := by decide +kernel
theorem dX5_setField_40 : decode cX5_setField 40 = .ok (.getfield 92, 3) := by decide +kernel
theorem dX5_setField_43 : decode cX5_setField 43 = .ok (.iload_n 1, 1) := by decide +kernel
theorem dX5_setField_44 : decode cX5_setField 44 = .ok (.aaload, 1) := by decide +kernel
theorem dX5_setField_45 : decode cX5_setField 45 = .ok (.astore 5, 2) := by decide +kernel
theorem dX5_setField_47 : decode cX5_setField 47 = .ok (.aload 5, 2) := by decide +kernel
theorem dX5_setField_49 : decode cX5_setField 49 = .ok (.getfield 96, 3) := by decide +kernel
theorem dX5_setField_52 : decode cX5_setField 52 = .ok (.istore 6, 2) := by decide +kernel
theorem dX5_setField_54 : decode cX5_setField 54 = .ok (.aload 5, 2) := by decide +kernel
theorem dX5_setField_56 : decode cX5_setField 56 = .ok (.iload_n 2, 1) := by decide +kernel
theorem dX5_setField_57 : decode cX5_setField 57 = .ok (.putfield 96, 3) := by decide +kernel
theorem dX5_setField_60 : decode cX5_setField 60 = .ok (.aload 5, 2) := by decide +kernel
theorem dX5_setField_62 : decode cX5_setField 62 = .ok (.iload_n 3, 1) := by decide +kernel
theorem dX5_setField_63 : decode cX5_setField 63 = .ok (.putfield 101, 3) := by decide +kernel
theorem dX5_setField_66 : decode cX5_setField 66 = .ok (.aload 5, 2) := by decide +kernel
theorem dX5_setField_68 : decode cX5_setField 68 = .ok (.iload 4, 2) := by decide +kernel
theorem dX5_setField_70 : decode cX5_setField 70 = .ok (.putfield 104, 3) := by decide +kernel
theorem dX5_setField_73 : decode cX5_setField 73 = .ok (.iload 6, 2) := by decide +kernel
theorem dX5_setField_75 : decode cX5_setField 75 = .ok (.ireturn, 1) := by decide +kernel
set_option maxRecDepth 20000 in
theorem ggX5_setPond_X2_hasUser : GoodIn wsX5_setPond wsX2_hasUser := goodIn_r _ [14, 15, 26, 27, 28, 29, 30, 31, 32, 33, 34, 35] (by decide +kernel) (by decide +kernel)
set_option maxRecDepth 20000 in
theorem gX5_setPond_X2_hasUser : GoodIn wsX5_setPond (wsV RX5 86 RX2 yX2_hasUser wsX2_hasUser) := goodIn_app (goodIn_of _ (by decide +kernel)) ggX5_setPond_X2_hasUser
set_option maxRecDepth 20000 in
theorem ggX5_setPond_X5_isWithin : GoodIn wsX5_setPond wsX5_isWithin := goodIn_r _ [19] (by decide +kernel) (by decide +kernel)
set_option maxRecDepth 20000 in
theorem gX5_setPond_X5_isWithin : GoodIn wsX5_setPond (va_wsS RX5 73 yX5_isWithin wsX5_isWithin) := goodIn_app (goodIn_of _ (by decide +kernel)) ggX5_setPond_X5_isWithin
theorem dX5_setPond_0 : decode cX5_setPond 0 = .ok (.aload_n 0, 1) := by decide +kernel
theorem dX5_setPond_1 : decode cX5_setPond 1 = .ok (.getfield 10, 3) := by decide +kernel
theorem dX5_setPond_4 : decode cX5_setPond 4 = .ok (.iload_n 1, 1) := by decide +kernel
theorem dX5_setPond_5 : decode cX5_setPond 5 = .ok (.invokevirtual 86, 3) := by decide +kernel
theorem dX5_setPond_8 : decode cX5_setPond 8 = .ok (.ifCond .ne 6, 3) := by decide +kernel
theorem dX5_setPond_11 : decode cX5_setPond 11 = .ok (.bipush (-101), 2) := by decide +kernel
theorem dX5_setPond_13 : decode cX5_setPond 13 = .ok (.ireturn, 1) := by decide +kernel
theorem dX5_setPond_14 : decode cX5_setPond 14 = .ok (.iload_n 2, 1) := by decide +kernel
theorem dX5_setPond_15 : decode cX5_setPond 15 = .ok (.iconst 0, 1) := by decide +kernel
theorem dX5_setPond_16 : decode cX5_setPond 16 = .ok (.sipush 500, 3) := by decide +kernel
theorem dX5_setPond_19 : decode cX5_setPond 19 = .ok (.invokestatic 73, 3) := by decide +kernel
theorem dX5_setPond_22 : decode cX5_setPond 22 = .ok (.ifCond .eq 13, 3) := by decide +kernel
theorem dX5_setPond_25 : decode cX5_setPond 25 = .ok (.iload_n 3, 1) := by decide +kernel
theorem dX5_setPond_26 : decode cX5_setPond 26 = .ok (.iconst 0, 1) := by decide +kernel
theorem dX5_setPond_27 : decode cX5_setPond 27 = .ok (.bipush 20, 2) := by decide +kernel
theorem dX5_setPond_29 : decode cX5_setPond 29 = .ok (.invokestatic 73, 3) := by decide +kernel
theorem dX5_setPond_32 : decode cX5_setPond 32 = .ok (.ifCond .ne 6, 3) := by decide +kernel
theorem dX5_setPond_35 : decode cX5_setPond 35 = .ok (.bipush (-102), 2) := by decide +kernel
theorem dX5_setPond_37 : decode cX5_setPond 37 = .ok (.ireturn, 1) := by decide +kernel
theorem dX5_setPond_38 : decode cX5_setPond 38 = .ok (.aload_n 0, 1) := by decide +kernel
theorem dX5_setPond_39 : decode cX5_setPond 39 = .ok (.getfield 10, 3) := by decide +kernel
theorem dX5_setPond_42 : decode cX5_setPond 42 = .ok (.getfield 92, 3) := by decide +kernel
theorem dX5_setPond_45 : decode cX5_setPond 45 = .ok (.iload_n 1, 1) := by decide +kernel
theorem dX5_setPond_46 : decode cX5_setPond 46 = .ok (.aaload, 1) := by decide +kernel
theorem dX5_setPond_47 : decode cX5_setPond 47 = .ok (.astore 4, 2) := by decide +kernel
theorem dX5_setPond_49 : decode cX5_setPond 49 = .ok (.aload 4, 2) := by decide +kernel
theorem dX5_setPond_51 : decode cX5_setPond 51 = .ok (.iload_n 2, 1) := by decide +kernel
theorem dX5_setPond_52 : decode cX5_setPond 52 = .ok (.putfield 107, 3) := by decide +kernel
theorem dX5_setPond_55 : decode cX5_setPond 55 = .ok (.aload 4, 2) := by decide +kernel
theorem dX5_setPond_57 : decode cX5_setPond 57 = .ok (.iload_n 3, 1) := by decide +kernel
theorem dX5_setPond_58 : decode cX5_setPond 58 = .ok (.putfield 110, 3) := by decide +kernel
theorem dX5_setPond_61 : decode cX5_setPond 61 = .ok (.aload 4, 2) := by decide +kernel
theorem dX5_setPond_63 : decode cX5_setPond 63 = .ok (.aload 4, 2) := by decide +kernel
theorem dX5_setPond_65 : decode cX5_setPond 65 = .ok (.getfield 113, 3) := by decide +kernel
theorem dX5_setPond_68 : decode cX5_setPond 68 = .ok (.iload_n 2, 1) := by decide +kernel
theorem dX5_setPond_69 : decode cX5_setPond 69 = .ok (.invokestatic 116, 3) := by decide +kernel
theorem dX5_setPond_72 : decode cX5_setPond 72 = .ok (.putfield 113, 3) := by decide +kernel
theorem dX5_setPond_75 : decode cX5_setPond 75 = .ok (.aload 4, 2) := by decide +kernel
theorem dX5_setPond_77 : decode cX5_setPond 77 = .ok (.getfield 113, 3) := by decide +kernel
theorem dX5_setPond_80 : decode cX5_setPond 80 = .ok (.ireturn, 1) := by decide +kernel
set_option maxRecDepth 20000 in
theorem ggX5_setTurn_X2_hasUser : GoodIn wsX5_setTurn wsX2_hasUser := goodIn_r _ [8, 9, 20, 21, 22, 23, 24, 25, 26, 27, 28, 29] (by decide +kernel) (by decide +kernel)
set_option maxRecDepth 20000 in
theorem gX5_setTurn_X2_hasUser : GoodIn wsX5_setTurn (wsV RX5 86 RX2 yX2_hasUser wsX2_hasUser) := goodIn_app (goodIn_of _ (by decide +kernel)) ggX5_setTurn_X2_hasUser
set_option maxRecDepth 20000 in
theorem ggX5_setTurn_X5_isWithin : GoodIn wsX5_setTurn wsX5_isWithin := goodIn_r _ [13] (by decide +kernel) (by decide +kernel)
set_option maxRecDepth 20000 in
theorem gX5_setTurn_X5_isWithin : GoodIn wsX5_setTurn (va_wsS RX5 73 yX5_isWithin wsX5_isWithin) := goodIn_app (goodIn_of _ (by decide +kernel)) ggX5_setTurn_X5_isWithin
theorem dX5_setTurn_0 : decode cX5_setTurn 0 = .ok (.aload_n 0, 1) := by decide +kernel
theorem dX5_setTurn_1 : decode cX5_setTurn 1 = .ok (.getfield 10, 3) := by decide +kernel
theorem dX5_setTurn_4 : decode cX5_setTurn 4 = .ok (.iload_n 1, 1) := by decide +kernel
theorem dX5_setTurn_5 : decode cX5_setTurn 5 = .ok (.invokevirtual 86, 3) := by decide +kernel
theorem dX5_setTurn_8 : decode cX5_setTurn 8 = .ok (.ifCond .ne 6, 3) := by decide +kernel
theorem dX5_setTurn_11 : decode cX5_setTurn 11 = .ok (.bipush (-101), 2) := by decide +kernel
theorem dX5_setTurn_13 : decode cX5_setTurn 13 = .ok (.ireturn, 1) := by decide +kernel
theorem dX5_setTurn_14 : decode cX5_setTurn 14 = .ok (.iload_n 2, 1) := by decide +kernel
theorem dX5_setTurn_15 : decode cX5_setTurn 15 = .ok (.iconst 0, 1) := by decide +kernel
theorem dX5_setTurn_16 : decode cX5_setTurn 16 = .ok (.bipush 24, 2) := by decide +kernel
theorem dX5_setTurn_18 : decode cX5_setTurn 18 = .ok (.invokestatic 73, 3) := by decide +kernel
theorem dX5_setTurn_21 : decode cX5_setTurn 21 = .ok (.ifCond .ne 6, 3) := by decide +kernel
theorem dX5_setTurn_24 : decode cX5_setTurn 24 = .ok (.bipush (-102), 2) := by decide +kernel
theorem dX5_setTurn_26 : decode cX5_setTurn 26 = .ok (.ireturn, 1) := by decide +kernel
theorem dX5_setTurn_27 : decode cX5_setTurn 27 = .ok (.aload_n 0, 1) := by decide +kernel
theorem dX5_setTurn_28 : decode cX5_setTurn 28 = .ok (.getfield 10, 3) := by decide +kernel
theorem dX5_setTurn_31 : decode cX5_setTurn 31 = .ok (.getfield 92, 3) := by decide +kernel
theorem dX5_setTurn_34 : decode cX5_setTurn 34 = .ok (.iload_n 1, 1) := by decide +kernel
theorem dX5_setTurn_35 : decode cX5_setTurn 35 = .ok (.aaload, 1) := by decide +kernel
theorem dX5_setTurn_36 : decode cX5_setTurn 36 = .ok (.astore_n 3, 1) := by decide +kernel
theorem dX5_setTurn_37 : decode cX5_setTurn 37 = .ok (.aload_n 3, 1) := by decide +kernel
theorem dX5_setTurn_38 : decode cX5_setTurn 38 = .ok (.getfield 122, 3) := by decide +kernel
theorem dX5_setTurn_41 : decode cX5_setTurn 41 = .ok (.istore 4, 2) := by decide +kernel
theorem dX5_setTurn_43 : decode cX5_setTurn 43 = .ok (.aload_n 3, 1) := by decide +kernel
theorem dX5_setTurn_44 : decode cX5_setTurn 44 = .ok (.iload_n 2, 1) := by decide +kernel
theorem dX5_setTurn_45 : decode cX5_setTurn 45 = .ok (.putfield 122, 3) := by decide +kernel
theorem dX5_setTurn_48 : decode cX5_setTurn 48 = .ok (.iload 4, 2) := by decide +kernel
theorem dX5_setTurn_50 : decode cX5_setTurn 50 = .ok (.ireturn, 1) := by decide +kernel
set_option maxRecDepth 20000 in
theorem ggX5_setSupply_X5_areHours : GoodIn wsX5_setSupply wsX5_areHours := goodIn_r _ [6, 7, 8, 5, 9] (by decide +kernel) (by decide +kernel)
set_option maxRecDepth 20000 in
theorem gX5_setSupply_X5_areHours : GoodIn wsX5_setSupply (va_wsS RX5 89 yX5_areHours wsX5_areHours) := goodIn_app (goodIn_of _ (by decide +kernel)) ggX5_setSupply_X5_areHours
set_option maxRecDepth 20000 in
theorem ggX5_setSupply_X5_isWithin : GoodIn wsX5_setSupply wsX5_isWithin := goodIn_r _ [9] (by decide +kernel) (by decide +kernel)
set_option maxRecDepth 20000 in
theorem gX5_setSupply_X5_isWithin : GoodIn wsX5_setSupply (va_wsS RX5 73 yX5_isWithin wsX5_isWithin) := goodIn_app (goodIn_of _ (by decide +kernel)) ggX5_setSupply_X5_isWithin
set_option maxRecDepth 20000 in
theorem ggX5_setSupply_X2_putSupply : GoodIn wsX5_setSupply wsX2_putSupply := goodIn_r _ [14, 15, 16, 17, 18, 19, 26, 27, 28, 29, 30, 31, 32, 33, 34, 35] (by decide +kernel) (by decide +kernel)
set_option maxRecDepth 20000 in
theorem gX5_setSupply_X2_putSupply : GoodIn wsX5_setSupply (wsV RX5 129 RX2 yX2_putSupply wsX2_putSupply) := goodIn_app (goodIn_of _ (by decide +kernel)) ggX5_setSupply_X2_putSupply
theorem dX5_setSupply_0 : decode cX5_setSupply 0 = .ok (.iload_n 1, 1) := by decide +kernel
theorem dX5_setSupply_1 : decode cX5_setSupply 1 = .ok (.iload_n 2, 1) := by decide +kernel
theorem dX5_setSupply_2 : decode cX5_setSupply 2 = .ok (.invokestatic 89, 3) := by decide +kernel
theorem dX5_setSupply_5 : decode cX5_setSupply 5 = .ok (.ifCond .eq 14, 3) := by decide +kernel
theorem dX5_setSupply_8 : decode cX5_setSupply 8 = .ok (.iload_n 3, 1) := by decide +kernel
theorem dX5_setSupply_9 : decode cX5_setSupply 9 = .ok (.iconst 0, 1) := by decide +kernel
theorem dX5_setSupply_10 : decode cX5_setSupply 10 = .ok (.sipush 200, 3) := by decide +kernel
theorem dX5_setSupply_13 : decode cX5_setSupply 13 = .ok (.invokestatic 73, 3) := by decide +kernel
theorem dX5_setSupply_16 : decode cX5_setSupply 16 = .ok (.ifCond .ne 6, 3) := by decide +kernel
theorem dX5_setSupply_19 : decode cX5_setSupply 19 = .ok (.bipush (-102), 2) := by decide +kernel
theorem dX5_setSupply_21 : decode cX5_setSupply 21 = .ok (.ireturn, 1) := by decide +kernel
theorem dX5_setSupply_22 : decode cX5_setSupply 22 = .ok (.aload_n 0, 1) := by decide +kernel
theorem dX5_setSupply_23 : decode cX5_setSupply 23 = .ok (.getfield 10, 3) := by decide +kernel
theorem dX5_setSupply_26 : decode cX5_setSupply 26 = .ok (.getfield 125, 3) := by decide +kernel
theorem dX5_setSupply_29 : decode cX5_setSupply 29 = .ok (.iload_n 1, 1) := by decide +kernel
theorem dX5_setSupply_30 : decode cX5_setSupply 30 = .ok (.iaload, 1) := by decide +kernel
theorem dX5_setSupply_31 : decode cX5_setSupply 31 = .ok (.istore 4, 2) := by decide +kernel
theorem dX5_setSupply_33 : decode cX5_setSupply 33 = .ok (.aload_n 0, 1) := by decide +kernel
theorem dX5_setSupply_34 : decode cX5_setSupply 34 = .ok (.getfield 10, 3) := by decide +kernel
theorem dX5_setSupply_37 : decode cX5_setSupply 37 = .ok (.iload_n 1, 1) := by decide +kernel
theorem dX5_setSupply_38 : decode cX5_setSupply 38 = .ok (.iload_n 2, 1) := by decide +kernel
theorem dX5_setSupply_39 : decode cX5_setSupply 39 = .ok (.iload_n 3, 1) := by decide +kernel
theorem dX5_setSupply_40 : decode cX5_setSupply 40 = .ok (.invokevirtual 129, 3) := by decide +kernel
theorem dX5_setSupply_43 : decode cX5_setSupply 43 = .ok (.iload 4, 2) := by decide +kernel
theorem dX5_setSupply_45 : decode cX5_setSupply 45 = .ok (.ireturn, 1) := by decide +kernel
set_option maxRecDepth 20000 in
theorem ggX5_setRule_X5_isWithin : GoodIn wsX5_setRule wsX5_isWithin := goodIn_r _ [6] (by decide +kernel) (by decide +kernel)
set_option maxRecDepth 20000 in
theorem gX5_setRule_X5_isWithin : GoodIn wsX5_setRule (va_wsS RX5 73 yX5_isWithin wsX5_isWithin) := goodIn_app (goodIn_of _ (by decide +kernel)) ggX5_setRule_X5_isWithin
theorem dX5_setRule_0 : decode cX5_setRule 0 = .ok (.iload_n 1, 1) := by decide +kernel
theorem dX5_setRule_1 : decode cX5_setRule 1 = .ok (.iconst 0, 1) := by decide +kernel
theorem dX5_setRule_2 : decode cX5_setRule 2 = .ok (.iconst 2, 1) := by decide +kernel
theorem dX5_setRule_3 : decode cX5_setRule 3 = .ok (.invokestatic 73, 3) := by decide +kernel
theorem dX5_setRule_6 : decode cX5_setRule 6 = .ok (.ifCond .ne 6, 3) := by decide +kernel
theorem dX5_setRule_9 : decode cX5_setRule 9 = .ok (.bipush (-102), 2) := by decide +kernel
theorem dX5_setRule_11 : decode cX5_setRule 11 = .ok (.ireturn, 1) := by decide +kernel
theorem dX5_setRule_12 : decode cX5_setRule 12 = .ok (.aload_n 0, 1) := by decide +kernel
theorem dX5_setRule_13 : decode cX5_setRule 13 = .ok (.getfield 10, 3) := by decide +kernel
theorem dX5_setRule_16 : decode cX5_setRule 16 = .ok (.getfield 132, 3) := by decide +kernel
theorem dX5_setRule_19 : decode cX5_setRule 19 = .ok (.istore_n 2, 1) := by decide +kernel
theorem dX5_setRule_20 : decode cX5_setRule 20 = .ok (.aload_n 0, 1) := by decide +kernel
theorem dX5_setRule_21 : decode cX5_setRule 21 = .ok (.getfield 10, 3) := by decide +kernel
theorem dX5_setRule_24 : decode cX5_setRule 24 = .ok (.iload_n 1, 1) := by decide +kernel
theorem dX5_setRule_25 : decode cX5_setRule 25 = .ok (.putfield 132, 3) := by decide +kernel
theorem dX5_setRule_28 : decode cX5_setRule 28 = .ok (.iload_n 2, 1) := by decide +kernel
theorem dX5_setRule_29 : decode cX5_setRule 29 = .ok (.ireturn, 1) := by decide +kernel
set_option maxRecDepth 20000 in
theorem ggX5_setFutile_X5_isWithin : GoodIn wsX5_setFutile wsX5_isWithin := goodIn_r _ [6] (by decide +kernel) (by decide +kernel)
set_option maxRecDepth 20000 in
theorem gX5_setFutile_X5_isWithin : GoodIn wsX5_setFutile (va_wsS RX5 73 yX5_isWithin wsX5_isWithin) := goodIn_app (goodIn_of _ (by decide +kernel)) ggX5_setFutile_X5_isWithin
theorem dX5_setFutile_0 : decode cX5_setFutile 0 = .ok (.iload_n 1, 1) := by decide +kernel
theorem dX5_setFutile_1 : decode cX5_setFutile 1 = .ok (.iconst 0, 1) := by decide +kernel
theorem dX5_setFutile_2 : decode cX5_setFutile 2 = .ok (.bipush 100, 2) := by decide +kernel
theorem dX5_setFutile_4 : decode cX5_setFutile 4 = .ok (.invokestatic 73, 3) := by decide +kernel
theorem dX5_setFutile_7 : decode cX5_setFutile 7 = .ok (.ifCond .ne 6, 3) := by decide +kernel
theorem dX5_setFutile_10 : decode cX5_setFutile 10 = .ok (.bipush (-102), 2) := by decide +kernel
theorem dX5_setFutile_12 : decode cX5_setFutile 12 = .ok (.ireturn, 1) := by decide +kernel
theorem dX5_setFutile_13 : decode cX5_setFutile 13 = .ok (.aload_n 0, 1) := by decide +kernel
theorem dX5_setFutile_14 : decode cX5_setFutile 14 = .ok (.getfield 10, 3) := by decide +kernel
theorem dX5_setFutile_17 : decode cX5_setFutile 17 = .ok (.getfield 135, 3) := by decide +kernel
theorem dX5_setFutile_20 : decode cX5_setFutile 20 = .ok (.istore_n 2, 1) := by decide +kernel
theorem dX5_setFutile_21 : decode cX5_setFutile 21 = .ok (.aload_n 0, 1) := by decide +kernel
theorem dX5_setFutile_22 : decode cX5_setFutile 22 = .ok (.getfield 10, 3) := by decide +kernel
theorem dX5_setFutile_25 : decode cX5_setFutile 25 = .ok (.iload_n 1, 1) := by decide +kernel
theorem dX5_setFutile_26 : decode cX5_setFutile 26 = .ok (.putfield 135, 3) := by decide +kernel
theorem dX5_setFutile_29 : decode cX5_setFutile 29 = .ok (.iload_n 2, 1) := by decide +kernel
theorem dX5_setFutile_30 : decode cX5_setFutile 30 = .ok (.ireturn, 1) := by decide +kernel
theorem dX5_ditches_0 : decode cX5_ditches 0 = .ok (.aload_n 0, 1) := by decide +kernel
theorem dX5_ditches_1 : decode cX5_ditches 1 = .ok (.getfield 10, 3) := by decide +kernel
theorem dX5_ditches_4 : decode cX5_ditches 4 = .ok (.getfield 57, 3) := by decide +kernel
theorem dX5_ditches_7 : decode cX5_ditches 7 = .ok (.ireturn, 1) := by decide +kernel
theorem dX5_users_0 : decode cX5_users 0 = .ok (.aload_n 0, 1) := by decide +kernel
theorem dX5_users_1 : decode cX5_users 1 = .ok (.getfield 10, 3) := by decide +kernel
theorem dX5_users_4 : decode cX5_users 4 = .ok (.getfield 83, 3) := by decide +kernel
theorem dX5_users_7 : decode cX5_users 7 = .ok (.ireturn, 1) := by decide +kernel
set_option maxRecDepth 20000 in
theorem ggX5_userByAge_X2_hasUser : GoodIn wsX5_userByAge wsX2_hasUser := goodIn_r _ [7, 8, 15, 16, 17, 18, 19, 20, 21, 22, 23, 24] (by decide +kernel) (by decide +kernel)
set_option maxRecDepth 20000 in
theorem gX5_userByAge_X2_hasUser : GoodIn wsX5_userByAge (wsV RX5 86 RX2 yX2_hasUser wsX2_hasUser) := goodIn_app (goodIn_of _ (by decide +kernel)) ggX5_userByAge_X2_hasUser
theorem dX5_userByAge_0 : decode cX5_userByAge 0 = .ok (.aload_n 0, 1) := by decide +kernel
theorem dX5_userByAge_1 : decode cX5_userByAge 1 = .ok (.getfield 10, 3) := by decide +kernel
theorem dX5_userByAge_4 : decode cX5_userByAge 4 = .ok (.iload_n 1, 1) := by decide +kernel
theorem dX5_userByAge_5 : decode cX5_userByAge 5 = .ok (.invokevirtual 86, 3) := by decide +kernel
theorem dX5_userByAge_8 : decode cX5_userByAge 8 = .ok (.ifCond .eq 15, 3) := by decide +kernel
theorem dX5_userByAge_11 : decode cX5_userByAge 11 = .ok (.aload_n 0, 1) := by decide +kernel
theorem dX5_userByAge_12 : decode cX5_userByAge 12 = .ok (.getfield 10, 3) := by decide +kernel
theorem dX5_userByAge_15 : decode cX5_userByAge 15 = .ok (.getfield 138, 3) := by decide +kernel
theorem dX5_userByAge_18 : decode cX5_userByAge 18 = .ok (.iload_n 1, 1) := by decide +kernel
theorem dX5_userByAge_19 : decode cX5_userByAge 19 = .ok (.iaload, 1) := by decide +kernel
theorem dX5_userByAge_20 : decode cX5_userByAge 20 = .ok (.goto 5, 3) := by decide +kernel
theorem dX5_userByAge_23 : decode cX5_userByAge 23 = .ok (.bipush (-101), 2) := by decide +kernel
theorem dX5_userByAge_25 : decode cX5_userByAge 25 = .ok (.ireturn, 1) := by decide +kernel
theorem dX5_time_0 : decode cX5_time 0 = .ok (.aload_n 0, 1) := by decide +kernel
theorem dX5_time_1 : decode cX5_time 1 = .ok (.getfield 10, 3) := by decide +kernel
theorem dX5_time_4 : decode cX5_time 4 = .ok (.getfield 141, 3) := by decide +kernel
theorem dX5_time_7 : decode cX5_time 7 = .ok (.ireturn, 1) := by decide +kernel
set_option maxRecDepth 20000 in
theorem ggX5_asks_X2_hasUser : GoodIn wsX5_asks wsX2_hasUser := goodIn_r _ [6, 7, 54, 55, 56, 57, 58, 59, 60, 61, 62, 63] (by decide +kernel) (by decide +kernel)
set_option maxRecDepth 20000 in
theorem gX5_asks_X2_hasUser : GoodIn wsX5_asks (wsV RX5 86 RX2 yX2_hasUser wsX2_hasUser) := goodIn_app (goodIn_of _ (by decide +kernel)) ggX5_asks_X2_hasUser
set_option maxRecDepth 20000 in
theorem ggX5_asks_X2_userInTurn : GoodIn wsX5_asks wsX2_userInTurn := goodIn_r _ [11, 7, 12, 13, 14, 15, 16, 17, 18, 19, 54, 55, 56, 57, 58, 59, 60, 61, 62, 63, 64, 65, 66, 67, 68, 69, 70, 71, 72, 73, 74, 75] (by decide +kernel) (by decide +kernel)
set_option maxRecDepth 20000 in
theorem gX5_asks_X2_userInTurn : GoodIn wsX5_asks (wsV RX5 144 RX2 yX2_userInTurn wsX2_userInTurn) := goodIn_app (goodIn_of _ (by decide +kernel)) ggX5_asks_X2_userInTurn
set_option maxRecDepth 20000 in
theorem ggX5_asks_X2_unitsAsked : GoodIn wsX5_asks wsX2_unitsAsked := goodIn_r _ [23, 12, 24, 25, 26, 27, 28, 29, 30, 31, 32, 5, 33, 15, 16, 17, 18, 19, 34, 35, 36, 37, 38, 39, 40, 41, 42, 43, 44, 45, 46, 47, 54, 55, 56, 57, 58, 59, 60, 61, 62, 63, 64, 65, 66, 67, 68, 69, 70, 71, 72, 73, 74, 75] (by decide +kernel) (by decide +kernel)
set_option maxRecDepth 20000 in
theorem gX5_asks_X2_unitsAsked : GoodIn wsX5_asks (wsV RX5 148 RX2 yX2_unitsAsked wsX2_unitsAsked) := goodIn_app (goodIn_of _ (by decide +kernel)) ggX5_asks_X2_unitsAsked
theorem dX5_asks_0 : decode cX5_asks 0 = .ok (.aload_n 0, 1) := by decide +kernel
theorem dX5_asks_1 : decode cX5_asks 1 = .ok (.getfield 10, 3) := by decide +kernel
theorem dX5_asks_4 : decode cX5_asks 4 = .ok (.iload_n 1, 1) := by decide +kernel
theorem dX5_asks_5 : decode cX5_asks 5 = .ok (.invokevirtual 86, 3) := by decide +kernel
theorem dX5_asks_8 : decode cX5_asks 8 = .ok (.ifCond .ne 6, 3) := by decide +kernel
theorem dX5_asks_11 : decode cX5_asks 11 = .ok (.bipush (-101), 2) := by decide +kernel
theorem dX5_asks_13 : decode cX5_asks 13 = .ok (.ireturn, 1) := by decide +kernel
theorem dX5_asks_14 : decode cX5_asks 14 = .ok (.aload_n 0, 1) := by decide +kernel
theorem dX5_asks_15 : decode cX5_asks 15 = .ok (.getfield 10, 3) := by decide +kernel
theorem dX5_asks_18 : decode cX5_asks 18 = .ok (.iload_n 1, 1) := by decide +kernel
theorem dX5_asks_19 : decode cX5_asks 19 = .ok (.aload_n 0, 1) := by decide +kernel
theorem dX5_asks_20 : decode cX5_asks 20 = .ok (.getfield 10, 3) := by decide +kernel
theorem dX5_asks_23 : decode cX5_asks 23 = .ok (.invokevirtual 144, 3) := by decide +kernel
theorem dX5_asks_26 : decode cX5_asks 26 = .ok (.invokevirtual 148, 3) := by decide +kernel
theorem dX5_asks_29 : decode cX5_asks 29 = .ok (.ireturn, 1) := by decide +kernel
set_option maxRecDepth 20000 in
theorem ggX5_gets_X2_hasUser : GoodIn wsX5_gets wsX2_hasUser := goodIn_r _ [8, 9, 123, 124, 125, 126, 127, 128, 129, 130, 131, 132] (by decide +kernel) (by decide +kernel)
set_option maxRecDepth 20000 in
theorem gX5_gets_X2_hasUser : GoodIn wsX5_gets (wsV RX5 86 RX2 yX2_hasUser wsX2_hasUser) := goodIn_app (goodIn_of _ (by decide +kernel)) ggX5_gets_X2_hasUser
set_option maxRecDepth 20000 in
theorem ggX5_gets_X1_distribute : GoodIn wsX5_gets wsX1_distribute := goodIn_r _ [14, 15, 16, 17, 18, 19, 20, 21, 22, 23, 7, 24, 25, 26, 27, 28, 29, 30, 31, 32, 33, 34, 35, 36, 37, 38, 9, 39, 40, 41, 42, 43, 44, 45, 46, 47, 48, 49, 50, 51, 52, 53, 54, 55, 56, 57, 58, 59, 60, 61, 62, 63, 64, 65, 66, 67, 68, 13, 69, 70, 71, 72, 73, 74, 75, 76, 77, 78, 79, 80, 81, 82, 83, 84, 85, 86, 87, 88, 89, 90, 91, 92, 93, 94, 95, 96, 5, 6, 8, 97, 98, 99, 100, 101, 102, 103, 104, 105, 106, 107, 108, 109, 110, 117, 118, 119, 120, 121, 122, 123, 124, 125, 126, 127, 128, 129, 130, 131, 132, 133, 134, 135, 136, 137, 138, 139, 140, 141, 142, 143, 144, 145, 146, 147] (by decide +kernel) (by decide +kernel)
set_option maxRecDepth 20000 in
theorem gX5_gets_X1_distribute : GoodIn wsX5_gets (wsV RX5 151 RX1 yX1_distribute wsX1_distribute) := goodIn_app (goodIn_of _ (by decide +kernel)) ggX5_gets_X1_distribute
theorem dX5_gets_0 : decode cX5_gets 0 = .ok (.aload_n 0, 1) := by decide +kernel
theorem dX5_gets_1 : decode cX5_gets 1 = .ok (.getfield 10, 3) := by decide +kernel
theorem dX5_gets_4 : decode cX5_gets 4 = .ok (.iload_n 1, 1) := by decide +kernel
theorem dX5_gets_5 : decode cX5_gets 5 = .ok (.invokevirtual 86, 3) := by decide +kernel
theorem dX5_gets_8 : decode cX5_gets 8 = .ok (.ifCond .ne 6, 3) := by decide +kernel
theorem dX5_gets_11 : decode cX5_gets 11 = .ok (.bipush (-101), 2) := by decide +kernel
theorem dX5_gets_13 : decode cX5_gets 13 = .ok (.ireturn, 1) := by decide +kernel
theorem dX5_gets_14 : decode cX5_gets 14 = .ok (.aload_n 0, 1) := by decide +kernel
theorem dX5_gets_15 : decode cX5_gets 15 = .ok (.getfield 30, 3) := by decide +kernel
theorem dX5_gets_18 : decode cX5_gets 18 = .ok (.aload_n 0, 1) := by decide +kernel
theorem dX5_gets_19 : decode cX5_gets 19 = .ok (.getfield 10, 3) := by decide +kernel
theorem dX5_gets_22 : decode cX5_gets 22 = .ok (.invokevirtual 151, 3) := by decide +kernel
theorem dX5_gets_25 : decode cX5_gets 25 = .ok (.aload_n 0, 1) := by decide +kernel
theorem dX5_gets_26 : decode cX5_gets 26 = .ok (.getfield 30, 3) := by decide +kernel
theorem dX5_gets_29 : decode cX5_gets 29 = .ok (.getfield 155, 3) := by decide +kernel
theorem dX5_gets_32 : decode cX5_gets 32 = .ok (.iload_n 1, 1) := by decide +kernel
theorem dX5_gets_33 : decode cX5_gets 33 = .ok (.iaload, 1) := by decide +kernel
theorem dX5_gets_34 : decode cX5_gets 34 = .ok (.ireturn, 1) := by decide +kernel
set_option maxRecDepth 20000 in
theorem ggX5_inflow_X2_hasDitch : GoodIn wsX5_inflow wsX2_hasDitch := goodIn_r _ [8, 9, 127, 128, 129, 130, 131, 132, 133, 134, 135, 136] (by decide +kernel) (by decide +kernel)
set_option maxRecDepth 20000 in
theorem gX5_inflow_X2_hasDitch : GoodIn wsX5_inflow (wsV RX5 41 RX2 yX2_hasDitch wsX2_hasDitch) := goodIn_app (goodIn_of _ (by decide +kernel)) ggX5_inflow_X2_hasDitch
set_option maxRecDepth 20000 in
theorem ggX5_inflow_X1_distribute : GoodIn wsX5_inflow wsX1_distribute := goodIn_r _ [14, 15, 16, 17, 18, 19, 20, 21, 22, 23, 7, 24, 25, 26, 27, 28, 29, 30, 31, 32, 33, 34, 35, 36, 37, 38, 39, 40, 41, 42, 43, 44, 45, 46, 47, 48, 49, 50, 51, 52, 53, 54, 55, 56, 57, 58, 59, 60, 61, 62, 63, 64, 65, 66, 67, 68, 69, 13, 70, 71, 72, 73, 74, 75, 76, 77, 78, 79, 80, 81, 82, 83, 84, 85, 86, 87, 88, 89, 90, 91, 92, 93, 94, 95, 96, 97, 98, 99, 100, 101, 102, 103, 104, 105, 106, 107, 108, 109, 110, 111, 112, 113, 114, 121, 122, 123, 124, 125, 126, 127, 128, 129, 130, 131, 132, 133, 134, 135, 136, 137, 138, 139, 140, 141, 142, 143, 144, 145, 146, 147, 148, 149, 150, 151] (by decide +kernel) (by decide +kernel)
set_option maxRecDepth 20000 in
theorem gX5_inflow_X1_distribute : GoodIn wsX5_inflow (wsV RX5 151 RX1 yX1_distribute wsX1_distribute) := goodIn_app (goodIn_of _ (by decide +kernel)) ggX5_inflow_X1_distribute
theorem dX5_inflow_0 : decode cX5_inflow 0 = .ok (.aload_n 0, 1) := by decide +kernel
theorem dX5_inflow_1 : decode cX5_inflow 1 = .ok (.getfield 10, 3) := by decide +kernel
theorem dX5_inflow_4 : decode cX5_inflow 4 = .ok (.iload_n 1, 1) := by decide +kernel
theorem dX5_inflow_5 : decode cX5_inflow 5 = .ok (.invokevirtual 41, 3) := by decide +kernel
theorem dX5_inflow_8 : decode cX5_inflow 8 = .ok (.ifCond .ne 6, 3) := by decide +kernel
theorem dX5_inflow_11 : decode cX5_inflow 11 = .ok (.bipush (-101), 2) := by decide +kernel
theorem dX5_inflow_13 : decode cX5_inflow 13 = .ok (.ireturn, 1) := by decide +kernel
theorem dX5_inflow_14 : decode cX5_inflow 14 = .ok (.aload_n 0, 1) := by decide +kernel
theorem dX5_inflow_15 : decode cX5_inflow 15 = .ok (.getfield 30, 3) := by decide +kernel
theorem dX5_inflow_18 : decode cX5_inflow 18 = .ok (.aload_n 0, 1) := by decide +kernel
theorem dX5_inflow_19 : decode cX5_inflow 19 = .ok (.getfield 10, 3) := by decide +kernel
theorem dX5_inflow_22 : decode cX5_inflow 22 = .ok (.invokevirtual 151, 3) := by decide +kernel
theorem dX5_inflow_25 : decode cX5_inflow 25 = .ok (.aload_n 0, 1) := by decide +kernel
theorem dX5_inflow_26 : decode cX5_inflow 26 = .ok (.getfield 30, 3) := by decide +kernel
theorem dX5_inflow_29 : decode cX5_inflow 29 = .ok (.getfield 158, 3) := by decide +kernel
theorem dX5_inflow_32 : decode cX5_inflow 32 = .ok (.iload_n 1, 1) := by decide +kernel
theorem dX5_inflow_33 : decode cX5_inflow 33 = .ok (.iaload, 1) := by decide +kernel
theorem dX5_inflow_34 : decode cX5_inflow 34 = .ok (.ireturn, 1) := by decide +kernel
set_option maxRecDepth 20000 in
theorem ggX5_loses_X2_hasDitch : GoodIn wsX5_loses wsX2_hasDitch := goodIn_r _ [7, 8, 124, 125, 126, 127, 128, 129, 130, 131, 132, 133] (by decide +kernel) (by decide +kernel)
set_option maxRecDepth 20000 in
theorem gX5_loses_X2_hasDitch : GoodIn wsX5_loses (wsV RX5 41 RX2 yX2_hasDitch wsX2_hasDitch) := goodIn_app (goodIn_of _ (by decide +kernel)) ggX5_loses_X2_hasDitch
set_option maxRecDepth 20000 in
theorem ggX5_loses_X1_distribute : GoodIn wsX5_loses wsX1_distribute := goodIn_r _ [13, 14, 15, 16, 17, 18, 19, 20, 21, 22, 6, 23, 24, 25, 26, 27, 28, 29, 30, 31, 32, 33, 34, 35, 36, 37, 38, 39, 40, 41, 42, 43, 44, 45, 46, 47, 48, 49, 50, 51, 52, 53, 54, 55, 56, 57, 58, 59, 60, 61, 62, 63, 64, 65, 66, 67, 68, 12, 69, 70, 71, 72, 73, 74, 75, 76, 77, 78, 79, 80, 81, 82, 83, 84, 85, 86, 87, 88, 89, 90, 91, 92, 93, 94, 95, 96, 97, 98, 99, 100, 101, 102, 103, 104, 105, 106, 107, 108, 109, 110, 111, 112, 113, 134, 135, 136, 137, 138, 139, 124, 125, 126, 127, 128, 129, 130, 131, 132, 133, 140, 141, 142, 143, 144, 145, 146, 147, 148, 149, 150, 151, 152, 153, 154] (by decide +kernel) (by decide +kernel)
set_option maxRecDepth 20000 in
theorem gX5_loses_X1_distribute : GoodIn wsX5_loses (wsV RX5 151 RX1 yX1_distribute wsX1_distribute) := goodIn_app (goodIn_of _ (by decide +kernel)) ggX5_loses_X1_distribute
set_option maxRecDepth 20000 in
theorem ggX5_loses_X1_lostIn : GoodIn wsX5_loses wsX1_lostIn := goodIn_r _ [117, 82, 79, 134, 135, 136, 137, 138, 139] (by decide +kernel) (by decide +kernel)
set_option maxRecDepth 20000 in
theorem gX5_loses_X1_lostIn : GoodIn wsX5_loses (wsV RX5 161 RX1 yX1_lostIn wsX1_lostIn) := goodIn_app (goodIn_of _ (by decide +kernel)) ggX5_loses_X1_lostIn
theorem dX5_loses_0 : decode cX5_loses 0 = .ok (.aload_n 0, 1) := by decide +kernel
theorem dX5_loses_1 : decode cX5_loses 1 = .ok (.getfield 10, 3) := by decide +kernel
theorem dX5_loses_4 : decode cX5_loses 4 = .ok (.iload_n 1, 1) := by decide +kernel
theorem dX5_loses_5 : decode cX5_loses 5 = .ok (.invokevirtual 41, 3) := by decide +kernel
theorem dX5_loses_8 : decode cX5_loses 8 = .ok (.ifCond .ne 6, 3) := by decide +kernel
theorem dX5_loses_11 : decode cX5_loses 11 = .ok (.bipush (-101), 2) := by decide +kernel
theorem dX5_loses_13 : decode cX5_loses 13 = .ok (.ireturn, 1) := by decide +kernel
theorem dX5_loses_14 : decode cX5_loses 14 = .ok (.aload_n 0, 1) := by decide +kernel
theorem dX5_loses_15 : decode cX5_loses 15 = .ok (.getfield 30, 3) := by decide +kernel
theorem dX5_loses_18 : decode cX5_loses 18 = .ok (.aload_n 0, 1) := by decide +kernel
theorem dX5_loses_19 : decode cX5_loses 19 = .ok (.getfield 10, 3) := by decide +kernel
theorem dX5_loses_22 : decode cX5_loses 22 = .ok (.invokevirtual 151, 3) := by decide +kernel
theorem dX5_loses_25 : decode cX5_loses 25 = .ok (.aload_n 0, 1) := by decide +kernel
theorem dX5_loses_26 : decode cX5_loses 26 = .ok (.getfield 30, 3) := by decide +kernel
theorem dX5_loses_29 : decode cX5_loses 29 = .ok (.iload_n 1, 1) := by decide +kernel
theorem dX5_loses_30 : decode cX5_loses 30 = .ok (.invokevirtual 161, 3) := by decide +kernel
theorem dX5_loses_33 : decode cX5_loses 33 = .ok (.ireturn, 1) := by decide +kernel
set_option maxRecDepth 20000 in
theorem ggX5_turn_X2_userInTurn : GoodIn wsX5_turn wsX2_userInTurn := goodIn_r _ [6, 7, 8, 9, 10, 11, 12, 13, 14, 15, 22, 23, 24, 25, 26, 27, 28, 29, 30, 31, 32, 33, 34, 35, 36, 37, 38, 39, 40, 41, 42, 43] (by decide +kernel) (by decide +kernel)
set_option maxRecDepth 20000 in
theorem gX5_turn_X2_userInTurn : GoodIn wsX5_turn (wsV RX5 144 RX2 yX2_userInTurn wsX2_userInTurn) := goodIn_app (goodIn_of _ (by decide +kernel)) ggX5_turn_X2_userInTurn
theorem dX5_turn_0 : decode cX5_turn 0 = .ok (.aload_n 0, 1) := by decide +kernel
theorem dX5_turn_1 : decode cX5_turn 1 = .ok (.getfield 10, 3) := by decide +kernel
theorem dX5_turn_4 : decode cX5_turn 4 = .ok (.invokevirtual 144, 3) := by decide +kernel
theorem dX5_turn_7 : decode cX5_turn 7 = .ok (.ireturn, 1) := by decide +kernel
set_option maxRecDepth 20000 in
theorem ggX5_limit_X2_hasUser : GoodIn wsX5_limit wsX2_hasUser := goodIn_r _ [7, 8, 124, 125, 126, 127, 128, 129, 130, 131, 132, 133] (by decide +kernel) (by decide +kernel)
set_option maxRecDepth 20000 in
theorem gX5_limit_X2_hasUser : GoodIn wsX5_limit (wsV RX5 86 RX2 yX2_hasUser wsX2_hasUser) := goodIn_app (goodIn_of _ (by decide +kernel)) ggX5_limit_X2_hasUser
set_option maxRecDepth 20000 in
theorem ggX5_limit_X1_distribute : GoodIn wsX5_limit wsX1_distribute := goodIn_r _ [13, 14, 15, 16, 17, 18, 19, 20, 21, 22, 6, 23, 24, 25, 26, 27, 28, 29, 30, 31, 32, 33, 34, 35, 36, 37, 8, 38, 39, 40, 41, 42, 43, 44, 45, 46, 47, 48, 49, 50, 51, 52, 53, 54, 55, 56, 57, 58, 59, 60, 61, 62, 63, 64, 65, 66, 67, 12, 68, 69, 70, 71, 72, 73, 74, 75, 76, 77, 78, 79, 80, 81, 82, 83, 84, 85, 86, 87, 88, 89, 90, 91, 92, 93, 94, 95, 4, 5, 7, 96, 97, 98, 99, 100, 101, 102, 103, 104, 105, 106, 107, 108, 109, 134, 135, 136, 137, 138, 139, 124, 125, 126, 127, 128, 129, 130, 131, 132, 133, 140, 141, 142, 143, 144, 145, 146, 147, 148, 149, 150, 151, 152, 153, 154] (by decide +kernel) (by decide +kernel)
set_option maxRecDepth 20000 in
theorem gX5_limit_X1_distribute : GoodIn wsX5_limit (wsV RX5 151 RX1 yX1_distribute wsX1_distribute) := goodIn_app (goodIn_of _ (by decide +kernel)) ggX5_limit_X1_distribute
set_option maxRecDepth 20000 in
theorem ggX5_limit_X1_isContent : GoodIn wsX5_limit wsX1_isContent := goodIn_r _ [113, 17, 16, 134, 135, 136, 137, 138, 139] (by decide +kernel) (by decide +kernel)
set_option maxRecDepth 20000 in
theorem gX5_limit_X1_isContent : GoodIn wsX5_limit (wsV RX5 165 RX1 yX1_isContent wsX1_isContent) := goodIn_app (goodIn_of _ (by decide +kernel)) ggX5_limit_X1_isContent
set_option maxRecDepth 20000 in
theorem ggX5_limit_X1_ditchAgainstOneMore : GoodIn wsX5_limit wsX1_ditchAgainstOneMore := goodIn_r _ [117, 17, 79, 80, 77, 81, 82, 94, 83, 73, 74, 75, 12, 76, 78, 15, 84, 85, 86, 87, 88, 89, 134, 135, 136, 137, 138, 139, 124, 125, 126, 127, 128, 129, 130, 131, 132, 133, 140, 141, 142, 143, 144, 145, 146, 147, 148, 149, 150, 151, 152, 153, 154] (by decide +kernel) (by decide +kernel)
set_option maxRecDepth 20000 in
theorem gX5_limit_X1_ditchAgainstOneMore : GoodIn wsX5_limit (wsV RX5 168 RX1 yX1_ditchAgainstOneMore wsX1_ditchAgainstOneMore) := goodIn_app (goodIn_of _ (by decide +kernel)) ggX5_limit_X1_ditchAgainstOneMore
theorem dX5_limit_0 : decode cX5_limit 0 = .ok (.aload_n 0, 1) := by decide +kernel
theorem dX5_limit_1 : decode cX5_limit 1 = .ok (.getfield 10, 3) := by decide +kernel
theorem dX5_limit_4 : decode cX5_limit 4 = .ok (.iload_n 1, 1) := by decide +kernel
theorem dX5_limit_5 : decode cX5_limit 5 = .ok (.invokevirtual 86, 3) := by decide +kernel
theorem dX5_limit_8 : decode cX5_limit 8 = .ok (.ifCond .ne 6, 3) := by decide +kernel
theorem dX5_limit_11 : decode cX5_limit 11 = .ok (.bipush (-101), 2) := by decide +kernel
theorem dX5_limit_13 : decode cX5_limit 13 = .ok (.ireturn, 1) := by decide +kernel
theorem dX5_limit_14 : decode cX5_limit 14 = .ok (.aload_n 0, 1) := by decide +kernel
theorem dX5_limit_15 : decode cX5_limit 15 = .ok (.getfield 30, 3) := by decide +kernel
theorem dX5_limit_18 : decode cX5_limit 18 = .ok (.aload_n 0, 1) := by decide +kernel
theorem dX5_limit_19 : decode cX5_limit 19 = .ok (.getfield 10, 3) := by decide +kernel
theorem dX5_limit_22 : decode cX5_limit 22 = .ok (.invokevirtual 151, 3) := by decide +kernel
theorem dX5_limit_25 : decode cX5_limit 25 = .ok (.aload_n 0, 1) := by decide +kernel
theorem dX5_limit_26 : decode cX5_limit 26 = .ok (.getfield 30, 3) := by decide +kernel
theorem dX5_limit_29 : decode cX5_limit 29 = .ok (.iload_n 1, 1) := by decide +kernel
theorem dX5_limit_30 : decode cX5_limit 30 = .ok (.invokevirtual 165, 3) := by decide +kernel
theorem dX5_limit_33 : decode cX5_limit 33 = .ok (.ifCond .eq 6, 3) := by decide +kernel
theorem dX5_limit_36 : decode cX5_limit 36 = .ok (.bipush (-103), 2) := by decide +kernel
theorem dX5_limit_38 : decode cX5_limit 38 = .ok (.ireturn, 1) := by decide +kernel
theorem dX5_limit_39 : decode cX5_limit 39 = .ok (.aload_n 0, 1) := by decide +kernel
theorem dX5_limit_40 : decode cX5_limit 40 = .ok (.getfield 30, 3) := by decide +kernel
theorem dX5_limit_43 : decode cX5_limit 43 = .ok (.aload_n 0, 1) := by decide +kernel
theorem dX5_limit_44 : decode cX5_limit 44 = .ok (.getfield 10, 3) := by decide +kernel
theorem dX5_limit_47 : decode cX5_limit 47 = .ok (.iload_n 1, 1) := by decide +kernel
theorem dX5_limit_48 : decode cX5_limit 48 = .ok (.invokevirtual 168, 3) := by decide +kernel
theorem dX5_limit_51 : decode cX5_limit 51 = .ok (.ireturn, 1) := by decide +kernel
set_option maxRecDepth 20000 in
theorem ggX5_usefulGate_X2_hasDitch : GoodIn wsX5_usefulGate wsX2_hasDitch := goodIn_r _ [7, 8, 164, 165, 166, 167, 168, 169, 170, 171, 172, 173] (by decide +kernel) (by decide +kernel)
set_option maxRecDepth 20000 in
theorem gX5_usefulGate_X2_hasDitch : GoodIn wsX5_usefulGate (wsV RX5 41 RX2 yX2_hasDitch wsX2_hasDitch) := goodIn_app (goodIn_of _ (by decide +kernel)) ggX5_usefulGate_X2_hasDitch
set_option maxRecDepth 20000 in
theorem ggX5_usefulGate_X2_copyFrom : GoodIn wsX5_usefulGate wsX2_copyFrom := goodIn_r _ [12, 8, 13, 14, 15, 16, 17, 18, 19, 20, 21, 22, 23, 24, 25, 26, 27, 28, 29, 30, 31, 32, 33, 34, 35, 36, 37, 38, 39, 40, 41, 42, 43, 44, 45, 46, 47, 48, 49, 50, 51, 52, 53, 164, 165, 166, 167, 168, 169, 170, 171, 172, 173, 174, 175, 176, 177, 178, 179, 180, 181, 182, 183, 184, 185, 186, 187, 188] (by decide +kernel) (by decide +kernel)
set_option maxRecDepth 20000 in
theorem gX5_usefulGate_X2_copyFrom : GoodIn wsX5_usefulGate (wsV RX5 172 RX2 yX2_copyFrom wsX2_copyFrom) := goodIn_app (goodIn_of _ (by decide +kernel)) ggX5_usefulGate_X2_copyFrom
set_option maxRecDepth 20000 in
theorem ggX5_usefulGate_X5_unitsGotInTrial : GoodIn wsX5_usefulGate wsX5_unitsGotInTrial := goodIn_r _ [58, 2, 59, 60, 61, 62, 63, 64, 65, 66, 67, 68, 69, 70, 71, 72, 73, 74, 75, 6, 76, 20, 77, 78, 79, 80, 24, 81, 82, 83, 84, 85, 86, 87, 88, 17, 18, 89, 22, 90, 91, 92, 93, 94, 95, 96, 97, 98, 99, 100, 101, 102, 36, 103, 42, 43, 41, 104, 105, 106, 107, 44, 45, 108, 109, 110, 111, 112, 113, 114, 115, 116, 117, 118, 119, 120, 121, 122, 123, 124, 125, 126, 127, 128, 129, 28, 130, 32, 131, 132, 133, 134, 135, 136, 137, 138, 139, 140, 141, 142, 143, 144, 145, 146, 147, 148, 149, 150, 151, 152, 153, 154, 155, 156, 157, 158, 159, 160, 161, 162, 163, 164, 165, 166, 167, 168, 169, 170, 171, 172, 173, 174, 175, 176, 189, 190, 191, 192, 193, 194, 177, 178, 179, 180, 181, 182, 183, 184, 185, 186, 187, 188] (by decide +kernel) (by decide +kernel)
set_option maxRecDepth 20000 in
theorem gX5_usefulGate_X5_unitsGotInTrial : GoodIn wsX5_usefulGate (wsV RX5 178 RX5 yX5_unitsGotInTrial wsX5_unitsGotInTrial) := goodIn_app (goodIn_of _ (by decide +kernel)) ggX5_usefulGate_X5_unitsGotInTrial
theorem dX5_usefulGate_0 : decode cX5_usefulGate 0 = .ok (.aload_n 0, 1) := by decide +kernel
theorem dX5_usefulGate_1 : decode cX5_usefulGate 1 = .ok (.getfield 10, 3) := by decide +kernel
theorem dX5_usefulGate_4 : decode cX5_usefulGate 4 = .ok (.iload_n 1, 1) := by decide +kernel
theorem dX5_usefulGate_5 : decode cX5_usefulGate 5 = .ok (.invokevirtual 41, 3) := by decide +kernel
theorem dX5_usefulGate_8 : decode cX5_usefulGate 8 = .ok (.ifCond .ne 6, 3) := by decide +kernel
theorem dX5_usefulGate_11 : decode cX5_usefulGate 11 = .ok (.bipush (-101), 2) := by decide +kernel
theorem dX5_usefulGate_13 : decode cX5_usefulGate 13 = .ok (.ireturn, 1) := by decide +kernel
theorem dX5_usefulGate_14 : decode cX5_usefulGate 14 = .ok (.aload_n 0, 1) := by decide +kernel
theorem dX5_usefulGate_15 : decode cX5_usefulGate 15 = .ok (.getfield 16, 3) := by decide +kernel
theorem dX5_usefulGate_18 : decode cX5_usefulGate 18 = .ok (.aload_n 0, 1) := by decide +kernel
theorem dX5_usefulGate_19 : decode cX5_usefulGate 19 = .ok (.getfield 10, 3) := by decide +kernel
theorem dX5_usefulGate_22 : decode cX5_usefulGate 22 = .ok (.invokevirtual 172, 3) := by decide +kernel
theorem dX5_usefulGate_25 : decode cX5_usefulGate 25 = .ok (.aload_n 0, 1) := by decide +kernel
theorem dX5_usefulGate_26 : decode cX5_usefulGate 26 = .ok (.iload_n 1, 1) := by decide +kernel
theorem dX5_usefulGate_27 : decode cX5_usefulGate 27 = .ok (.sipush 200, 3) := by decide +kernel
theorem dX5_usefulGate_30 : decode cX5_usefulGate 30 = .ok (.invokevirtual 178, 3) := by decide +kernel
theorem dX5_usefulGate_33 : decode cX5_usefulGate 33 = .ok (.istore_n 2, 1) := by decide +kernel
theorem dX5_usefulGate_34 : decode cX5_usefulGate 34 = .ok (.iconst 1, 1) := by decide +kernel
theorem dX5_usefulGate_35 : decode cX5_usefulGate 35 = .ok (.istore_n 3, 1) := by decide +kernel
theorem dX5_usefulGate_36 : decode cX5_usefulGate 36 = .ok (.iload_n 3, 1) := by decide +kernel
theorem dX5_usefulGate_37 : decode cX5_usefulGate 37 = .ok (.sipush 200, 3) := by decide +kernel
theorem dX5_usefulGate_40 : decode cX5_usefulGate 40 = .ok (.if_icmp .ge 21, 3) := by decide +kernel
theorem dX5_usefulGate_43 : decode cX5_usefulGate 43 = .ok (.aload_n 0, 1) := by decide +kernel
theorem dX5_usefulGate_44 : decode cX5_usefulGate 44 = .ok (.iload_n 1, 1) := by decide +kernel
theorem dX5_usefulGate_45 : decode cX5_usefulGate 45 = .ok (.iload_n 3, 1) := by decide +kernel
theorem dX5_usefulGate_46 : decode cX5_usefulGate 46 = .ok (.invokevirtual 178, 3) := by decide +kernel
theorem dX5_usefulGate_49 : decode cX5_usefulGate 49 = .ok (.iload_n 2, 1) := by decide +kernel
theorem dX5_usefulGate_50 : decode cX5_usefulGate 50 = .ok (.if_icmp .ne 5, 3) := by decide +kernel
theorem dX5_usefulGate_53 : decode cX5_usefulGate 53 = .ok (.iload_n 3, 1) := by decide +kernel
theorem dX5_usefulGate_54 : decode cX5_usefulGate 54 = .ok (.ireturn, 1) := by decide +kernel
theorem dX5_usefulGate_55 : decode cX5_usefulGate 55 = .ok (.iinc 3 1, 3) := by decide +kernel
theorem dX5_usefulGate_58 : decode cX5_usefulGate 58 = .ok (.goto (-22), 3) := by decide +kernel
theorem dX5_usefulGate_61 : decode cX5_usefulGate 61 = .ok (.sipush 200, 3) := by decide +kernel
theorem dX5_usefulGate_64 : decode cX5_usefulGate 64 = .ok (.ireturn, 1) := by decide +kernel
set_option maxRecDepth 20000 in
theorem ggX5_advance_X5_isWithin : GoodIn wsX5_advance wsX5_isWithin := goodIn_r _ [6] (by decide +kernel) (by decide +kernel)
set_option maxRecDepth 20000 in
theorem gX5_advance_X5_isWithin : GoodIn wsX5_advance (va_wsS RX5 73 yX5_isWithin wsX5_isWithin) := goodIn_app (goodIn_of _ (by decide +kernel)) ggX5_advance_X5_isWithin
set_option maxRecDepth 20000 in
theorem ggX5_advance_X2_passHour : GoodIn wsX5_advance wsX2_passHour := goodIn_r _ [11, 12, 13, 14, 15, 16, 17, 18, 19, 20, 21, 22, 23, 24, 25, 26, 27, 28, 29, 30, 31, 32, 10, 33, 34, 35, 36, 37, 38, 39, 40, 41, 42, 43, 44, 45, 46, 47, 48, 49, 50, 51, 52, 53, 54, 55, 56, 57, 58, 59, 60, 61, 62, 63, 64, 65, 66, 67, 68, 69, 70, 71, 72, 73, 74, 75, 76, 77, 78, 79, 80, 81, 82, 83, 84, 85, 86, 87, 88, 89, 90, 91, 92, 93, 94, 95, 96, 97, 98, 99, 100, 101, 102, 103, 104, 105, 106, 107, 108, 109, 110, 111, 112, 113, 114, 115, 116, 117, 118, 119, 120, 121, 122, 123, 124, 125, 126, 127, 128, 129, 130, 131, 132, 139, 140, 141, 142, 143, 144, 145, 146, 147, 148, 149, 150, 151, 152, 153, 154, 155, 156, 157, 158, 159, 160, 161, 162, 163, 164, 165, 166, 167, 168, 169] (by decide +kernel) (by decide +kernel)
set_option maxRecDepth 20000 in
theorem gX5_advance_X2_passHour : GoodIn wsX5_advance (wsV RX5 181 RX2 yX2_passHour wsX2_passHour) := goodIn_app (goodIn_of _ (by decide +kernel)) ggX5_advance_X2_passHour
theorem dX5_advance_0 : decode cX5_advance 0 = .ok (.iload_n 1, 1) := by decide +kernel
theorem dX5_advance_1 : decode cX5_advance 1 = .ok (.iconst 1, 1) := by decide +kernel
theorem dX5_advance_2 : decode cX5_advance 2 = .ok (.bipush 48, 2) := by decide +kernel
theorem dX5_advance_4 : decode cX5_advance 4 = .ok (.invokestatic 73, 3) := by decide +kernel
theorem dX5_advance_7 : decode cX5_advance 7 = .ok (.ifCond .ne 6, 3) := by decide +kernel
theorem dX5_advance_10 : decode cX5_advance 10 = .ok (.bipush (-102), 2) := by decide +kernel
theorem dX5_advance_12 : decode cX5_advance 12 = .ok (.ireturn, 1) := by decide +kernel
theorem dX5_advance_13 : decode cX5_advance 13 = .ok (.iconst 0, 1) := by decide +kernel
theorem dX5_advance_14 : decode cX5_advance 14 = .ok (.istore_n 2, 1) := by decide +kernel
theorem dX5_advance_15 : decode cX5_advance 15 = .ok (.iconst 0, 1) := by decide +kernel
theorem dX5_advance_16 : decode cX5_advance 16 = .ok (.istore_n 3, 1) := by decide +kernel
theorem dX5_advance_17 : decode cX5_advance 17 = .ok (.iload_n 3, 1) := by decide +kernel
theorem dX5_advance_18 : decode cX5_advance 18 = .ok (.iload_n 1, 1) := by decide +kernel
theorem dX5_advance_19 : decode cX5_advance 19 = .ok (.if_icmp .ge 23, 3) := by decide +kernel
theorem dX5_advance_22 : decode cX5_advance 22 = .ok (.iload_n 2, 1) := by decide +kernel
theorem dX5_advance_23 : decode cX5_advance 23 = .ok (.aload_n 0, 1) := by decide +kernel
theorem dX5_advance_24 : decode cX5_advance 24 = .ok (.getfield 10, 3) := by decide +kernel
theorem dX5_advance_27 : decode cX5_advance 27 = .ok (.aload_n 0, 1) := by decide +kernel
theorem dX5_advance_28 : decode cX5_advance 28 = .ok (.getfield 30, 3) := by decide +kernel
theorem dX5_advance_31 : decode cX5_advance 31 = .ok (.invokevirtual 181, 3) := by decide +kernel
theorem dX5_advance_34 : decode cX5_advance 34 = .ok (.iadd, 1) := by decide +kernel
theorem dX5_advance_35 : decode cX5_advance 35 = .ok (.istore_n 2, 1) := by decide +kernel
theorem dX5_advance_36 : decode cX5_advance 36 = .ok (.iinc 3 1, 3) := by decide +kernel
theorem dX5_advance_39 : decode cX5_advance 39 = .ok (.goto (-22), 3) := by decide +kernel
theorem dX5_advance_42 : decode cX5_advance 42 = .ok (.iload_n 2, 1) := by decide +kernel
theorem dX5_advance_43 : decode cX5_advance 43 = .ok (.ireturn, 1) := by decide +kernel
set_option maxRecDepth 20000 in
theorem ggX5_account_X5_isWithin : GoodIn wsX5_account wsX5_isWithin := goodIn_r _ [6] (by decide +kernel) (by decide +kernel)
set_option maxRecDepth 20000 in
theorem gX5_account_X5_isWithin : GoodIn wsX5_account (va_wsS RX5 73 yX5_isWithin wsX5_isWithin) := goodIn_app (goodIn_of _ (by decide +kernel)) ggX5_account_X5_isWithin
theorem dX5_account_0 : decode cX5_account 0 = .ok (.iload_n 1, 1) := by decide +kernel
theorem dX5_account_1 : decode cX5_account 1 = .ok (.iconst 0, 1) := by decide +kernel
theorem dX5_account_2 : decode cX5_account 2 = .ok (.bipush 6, 2) := by decide +kernel
theorem dX5_account_4 : decode cX5_account 4 = .ok (.invokestatic 73, 3) := by decide +kernel
theorem dX5_account_7 : decode cX5_account 7 = .ok (.ifCond .eq 15, 3) := by decide +kernel
theorem dX5_account_10 : decode cX5_account 10 = .ok (.aload_n 0, 1) := by decide +kernel
theorem dX5_account_11 : decode cX5_account 11 = .ok (.getfield 10, 3) := by decide +kernel
theorem dX5_account_14 : decode cX5_account 14 = .ok (.getfield 185, 3) := by decide +kernel
theorem dX5_account_17 : decode cX5_account 17 = .ok (.iload_n 1, 1) := by decide +kernel
theorem dX5_account_18 : decode cX5_account 18 = .ok (.iaload, 1) := by decide +kernel
theorem dX5_account_19 : decode cX5_account 19 = .ok (.goto 5, 3) := by decide +kernel
theorem dX5_account_22 : decode cX5_account 22 = .ok (.bipush (-102), 2) := by decide +kernel
theorem dX5_account_24 : decode cX5_account 24 = .ok (.ireturn, 1) := by decide +kernel
set_option maxRecDepth 20000 in
theorem ggX5_willMiss_X2_hasUser : GoodIn wsX5_willMiss wsX2_hasUser := goodIn_r _ [10, 11, 174, 175, 176, 177, 178, 179, 180, 181, 182, 183] (by decide +kernel) (by decide +kernel)
set_option maxRecDepth 20000 in
theorem gX5_willMiss_X2_hasUser : GoodIn wsX5_willMiss (wsV RX5 86 RX2 yX2_hasUser wsX2_hasUser) := goodIn_app (goodIn_of _ (by decide +kernel)) ggX5_willMiss_X2_hasUser
set_option maxRecDepth 20000 in
theorem ggX5_willMiss_X5_isWithin : GoodIn wsX5_willMiss wsX5_isWithin := goodIn_r _ [15] (by decide +kernel) (by decide +kernel)
set_option maxRecDepth 20000 in
theorem gX5_willMiss_X5_isWithin : GoodIn wsX5_willMiss (va_wsS RX5 73 yX5_isWithin wsX5_isWithin) := goodIn_app (goodIn_of _ (by decide +kernel)) ggX5_willMiss_X5_isWithin
set_option maxRecDepth 20000 in
theorem ggX5_willMiss_X2_copyFrom : GoodIn wsX5_willMiss wsX2_copyFrom := goodIn_r _ [19, 20, 21, 22, 23, 24, 11, 25, 26, 27, 28, 29, 30, 31, 32, 33, 34, 35, 36, 37, 38, 39, 40, 41, 42, 43, 44, 45, 46, 47, 48, 49, 50, 51, 52, 53, 54, 55, 56, 57, 58, 59, 60, 174, 175, 176, 177, 178, 179, 180, 181, 182, 183, 196, 197, 198, 184, 185, 186, 187, 188, 189, 190, 191, 192, 193, 194, 195] (by decide +kernel) (by decide +kernel)
set_option maxRecDepth 20000 in
theorem gX5_willMiss_X2_copyFrom : GoodIn wsX5_willMiss (wsV RX5 172 RX2 yX2_copyFrom wsX2_copyFrom) := goodIn_app (goodIn_of _ (by decide +kernel)) ggX5_willMiss_X2_copyFrom
set_option maxRecDepth 20000 in
theorem ggX5_willMiss_X2_passHour : GoodIn wsX5_willMiss wsX2_passHour := goodIn_r _ [64, 28, 65, 20, 11, 25, 66, 31, 67, 68, 69, 70, 71, 72, 73, 74, 75, 76, 77, 78, 79, 80, 9, 81, 27, 82, 83, 84, 85, 86, 87, 88, 89, 90, 91, 92, 93, 94, 29, 95, 96, 97, 98, 99, 100, 101, 102, 103, 104, 105, 106, 107, 43, 108, 49, 50, 48, 109, 110, 111, 112, 51, 52, 113, 114, 115, 116, 117, 118, 119, 120, 121, 122, 123, 124, 125, 126, 127, 128, 129, 130, 131, 132, 133, 134, 35, 135, 39, 136, 137, 138, 139, 140, 141, 7, 8, 10, 142, 143, 144, 145, 146, 147, 148, 149, 150, 151, 152, 153, 154, 155, 156, 157, 158, 159, 160, 161, 162, 163, 164, 165, 166, 167, 174, 175, 176, 177, 178, 179, 180, 181, 182, 183, 199, 200, 201, 202, 203, 204, 184, 185, 186, 187, 188, 189, 190, 191, 192, 193, 194, 195, 196, 197, 198] (by decide +kernel) (by decide +kernel)
set_option maxRecDepth 20000 in
theorem gX5_willMiss_X2_passHour : GoodIn wsX5_willMiss (wsV RX5 181 RX2 yX2_passHour wsX2_passHour) := goodIn_app (goodIn_of _ (by decide +kernel)) ggX5_willMiss_X2_passHour
theorem dX5_willMiss_0 : decode cX5_willMiss 0 = .ok (.aload_n 0, 1) := by decide +kernel
theorem dX5_willMiss_1 : decode cX5_willMiss 1 = .ok (.getfield 10, 3) := by decide +kernel
theorem dX5_willMiss_4 : decode cX5_willMiss 4 = .ok (.iload_n 1, 1) := by decide +kernel
theorem dX5_willMiss_5 : decode cX5_willMiss 5 = .ok (.invokevirtual 86, 3) := by decide +kernel
theorem dX5_willMiss_8 : decode cX5_willMiss 8 = .ok (.ifCond .ne 6, 3) := by decide +kernel
theorem dX5_willMiss_11 : decode cX5_willMiss 11 = .ok (.bipush (-101), 2) := by decide +kernel
theorem dX5_willMiss_13 : decode cX5_willMiss 13 = .ok (.ireturn, 1) := by decide +kernel
theorem dX5_willMiss_14 : decode cX5_willMiss 14 = .ok (.iload_n 2, 1) := by decide +kernel
theorem dX5_willMiss_15 : decode cX5_willMiss 15 = .ok (.iconst 1, 1) := by decide +kernel
theorem dX5_willMiss_16 : decode cX5_willMiss 16 = .ok (.bipush 48, 2) := by decide +kernel
theorem dX5_willMiss_18 : decode cX5_willMiss 18 = .ok (.invokestatic 73, 3) := by decide +kernel
theorem dX5_willMiss_21 : decode cX5_willMiss 21 = .ok (.ifCond .ne 6, 3) := by decide +kernel
theorem dX5_willMiss_24 : decode cX5_willMiss 24 = .ok (.bipush (-102), 2) := by decide +kernel
theorem dX5_willMiss_26 : decode cX5_willMiss 26 = .ok (.ireturn, 1) := by decide +kernel
theorem dX5_willMiss_27 : decode cX5_willMiss 27 = .ok (.aload_n 0, 1) := by decide +kernel
theorem dX5_willMiss_28 : decode cX5_willMiss 28 = .ok (.getfield 16, 3) := by decide +kernel
theorem dX5_willMiss_31 : decode cX5_willMiss 31 = .ok (.aload_n 0, 1) := by decide +kernel
theorem dX5_willMiss_32 : decode cX5_willMiss 32 = .ok (.getfield 10, 3) := by decide +kernel
theorem dX5_willMiss_35 : decode cX5_willMiss 35 = .ok (.invokevirtual 172, 3) := by decide +kernel
theorem dX5_willMiss_38 : decode cX5_willMiss 38 = .ok (.iconst 0, 1) := by decide +kernel
theorem dX5_willMiss_39 : decode cX5_willMiss 39 = .ok (.istore_n 3, 1) := by decide +kernel
theorem dX5_willMiss_40 : decode cX5_willMiss 40 = .ok (.iload_n 3, 1) := by decide +kernel
theorem dX5_willMiss_41 : decode cX5_willMiss 41 = .ok (.iload_n 2, 1) := by decide +kernel
theorem dX5_willMiss_42 : decode cX5_willMiss 42 = .ok (.if_icmp .ge 21, 3) := by decide +kernel
theorem dX5_willMiss_45 : decode cX5_willMiss 45 = .ok (.aload_n 0, 1) := by decide +kernel
theorem dX5_willMiss_46 : decode cX5_willMiss 46 = .ok (.getfield 16, 3) := by decide +kernel
theorem dX5_willMiss_49 : decode cX5_willMiss 49 = .ok (.aload_n 0, 1) := by decide +kernel
theorem dX5_willMiss_50 : decode cX5_willMiss 50 = .ok (.getfield 30, 3) := by decide +kernel
theorem dX5_willMiss_53 : decode cX5_willMiss 53 = .ok (.invokevirtual 181, 3) := by decide +kernel
theorem dX5_willMiss_56 : decode cX5_willMiss 56 = .ok (.pop, 1) := by decide +kernel
theorem dX5_willMiss_57 : decode cX5_willMiss 57 = .ok (.iinc 3 1, 3) := by decide +kernel
theorem dX5_willMiss_60 : decode cX5_willMiss 60 = .ok (.goto (-20), 3) := by decide +kernel
theorem dX5_willMiss_63 : decode cX5_willMiss 63 = .ok (.aload_n 0, 1) := by decide +kernel
theorem dX5_willMiss_64 : decode cX5_willMiss 64 = .ok (.getfield 16, 3) := by decide +kernel
theorem dX5_willMiss_67 : decode cX5_willMiss 67 = .ok (.getfield 92, 3) := by decide +kernel
theorem dX5_willMiss_70 : decode cX5_willMiss 70 = .ok (.iload_n 1, 1) := by decide +kernel
theorem dX5_willMiss_71 : decode cX5_willMiss 71 = .ok (.aaload, 1) := by decide +kernel
theorem dX5_willMiss_72 : decode cX5_willMiss 72 = .ok (.getfield 188, 3) := by decide +kernel
theorem dX5_willMiss_75 : decode cX5_willMiss 75 = .ok (.aload_n 0, 1) := by decide +kernel
theorem dX5_willMiss_76 : decode cX5_willMiss 76 = .ok (.getfield 10, 3) := by decide +kernel
theorem dX5_willMiss_79 : decode cX5_willMiss 79 = .ok (.getfield 92, 3) := by decide +kernel
theorem dX5_willMiss_82 : decode cX5_willMiss 82 = .ok (.iload_n 1, 1) := by decide +kernel
theorem dX5_willMiss_83 : decode cX5_willMiss 83 = .ok (.aaload, 1) := by decide +kernel
theorem dX5_willMiss_84 : decode cX5_willMiss 84 = .ok (.getfield 188, 3) := by decide +kernel
theorem dX5_willMiss_87 : decode cX5_willMiss 87 = .ok (.isub, 1) := by decide +kernel
theorem dX5_willMiss_88 : decode cX5_willMiss 88 = .ok (.ireturn, 1) := by decide +kernel
set_option maxRecDepth 20000 in
theorem ggX5_gain_X2_hasUser : GoodIn wsX5_gain wsX2_hasUser := goodIn_r _ [6, 7, 163, 164, 165, 166, 167, 168, 169, 170, 171, 172] (by decide +kernel) (by decide +kernel)
set_option maxRecDepth 20000 in
theorem gX5_gain_X2_hasUser : GoodIn wsX5_gain (wsV RX5 86 RX2 yX2_hasUser wsX2_hasUser) := goodIn_app (goodIn_of _ (by decide +kernel)) ggX5_gain_X2_hasUser
set_option maxRecDepth 20000 in
theorem ggX5_gain_X2_isYounger : GoodIn wsX5_gain wsX2_isYounger := goodIn_r _ [11, 12, 13, 163, 164, 165, 166, 167, 168, 169, 170, 171, 172, 173, 174, 175, 176, 177, 178, 179, 180, 181, 182, 183, 184] (by decide +kernel) (by decide +kernel)
set_option maxRecDepth 20000 in
theorem gX5_gain_X2_isYounger : GoodIn wsX5_gain (wsV RX5 194 RX2 yX2_isYounger wsX2_isYounger) := goodIn_app (goodIn_of _ (by decide +kernel)) ggX5_gain_X2_isYounger
set_option maxRecDepth 20000 in
theorem ggX5_gain_X5_gainOf : GoodIn wsX5_gain wsX5_gainOf := goodIn_r _ [18, 19, 1, 20, 21, 22, 23, 24, 25, 26, 27, 28, 29, 30, 31, 32, 33, 34, 35, 36, 37, 5, 38, 39, 40, 41, 42, 43, 44, 45, 46, 47, 48, 49, 50, 51, 52, 7, 12, 53, 54, 55, 56, 57, 58, 59, 60, 61, 62, 63, 64, 65, 66, 67, 68, 69, 70, 71, 72, 73, 74, 75, 76, 77, 78, 79, 80, 81, 82, 83, 84, 85, 86, 87, 88, 89, 90, 91, 92, 93, 94, 95, 96, 97, 98, 99, 100, 101, 102, 103, 104, 105, 106, 107, 108, 109, 3, 4, 6, 110, 111, 112, 113, 114, 115, 116, 117, 118, 119, 120, 121, 122, 123, 124, 125, 126, 127, 128, 129, 130, 131, 132, 133, 134, 135, 136, 137, 138, 139, 140, 141, 142, 143, 144, 145, 146, 147, 148, 149, 150, 151, 152, 153, 154, 155, 156, 157, 158, 159, 160, 161, 162, 185, 186, 187, 188, 189, 190, 163, 164, 165, 166, 167, 168, 169, 170, 171, 172, 173, 174, 175, 176, 177, 178, 179, 180, 181, 182, 183, 184, 191, 192, 193] (by decide +kernel) (by decide +kernel)
set_option maxRecDepth 20000 in
theorem gX5_gain_X5_gainOf : GoodIn wsX5_gain (wsV RX5 197 RX5 yX5_gainOf wsX5_gainOf) := goodIn_app (goodIn_of _ (by decide +kernel)) ggX5_gain_X5_gainOf
theorem dX5_gain_0 : decode cX5_gain 0 = .ok (.aload_n 0, 1) := by decide +kernel
theorem dX5_gain_1 : decode cX5_gain 1 = .ok (.getfield 10, 3) := by decide +kernel
theorem dX5_gain_4 : decode cX5_gain 4 = .ok (.iload_n 1, 1) := by decide +kernel
theorem dX5_gain_5 : decode cX5_gain 5 = .ok (.invokevirtual 86, 3) := by decide +kernel
theorem dX5_gain_8 : decode cX5_gain 8 = .ok (.ifCond .eq 14, 3) := by decide +kernel
theorem dX5_gain_11 : decode cX5_gain 11 = .ok (.aload_n 0, 1) := by decide +kernel
theorem dX5_gain_12 : decode cX5_gain 12 = .ok (.getfield 10, 3) := by decide +kernel
theorem dX5_gain_15 : decode cX5_gain 15 = .ok (.iload_n 2, 1) := by decide +kernel
theorem dX5_gain_16 : decode cX5_gain 16 = .ok (.invokevirtual 86, 3) := by decide +kernel
theorem dX5_gain_19 : decode cX5_gain 19 = .ok (.ifCond .ne 6, 3) := by decide +kernel
theorem dX5_gain_22 : decode cX5_gain 22 = .ok (.bipush (-101), 2) := by decide +kernel
theorem dX5_gain_24 : decode cX5_gain 24 = .ok (.ireturn, 1) := by decide +kernel
theorem dX5_gain_25 : decode cX5_gain 25 = .ok (.aload_n 0, 1) := by decide +kernel
theorem dX5_gain_26 : decode cX5_gain 26 = .ok (.getfield 10, 3) := by decide +kernel
theorem dX5_gain_29 : decode cX5_gain 29 = .ok (.iload_n 2, 1) := by decide +kernel
theorem dX5_gain_30 : decode cX5_gain 30 = .ok (.iload_n 1, 1) := by decide +kernel
theorem dX5_gain_31 : decode cX5_gain 31 = .ok (.invokevirtual 194, 3) := by decide +kernel
theorem dX5_gain_34 : decode cX5_gain 34 = .ok (.ifCond .ne 6, 3) := by decide +kernel
theorem dX5_gain_37 : decode cX5_gain 37 = .ok (.bipush (-103), 2) := by decide +kernel
theorem dX5_gain_39 : decode cX5_gain 39 = .ok (.ireturn, 1) := by decide +kernel
theorem dX5_gain_40 : decode cX5_gain 40 = .ok (.aload_n 0, 1) := by decide +kernel
theorem dX5_gain_41 : decode cX5_gain 41 = .ok (.iload_n 1, 1) := by decide +kernel
theorem dX5_gain_42 : decode cX5_gain 42 = .ok (.iload_n 2, 1) := by decide +kernel
theorem dX5_gain_43 : decode cX5_gain 43 = .ok (.invokevirtual 197, 3) := by decide +kernel
theorem dX5_gain_46 : decode cX5_gain 46 = .ok (.ireturn, 1) := by decide +kernel
set_option maxRecDepth 20000 in
theorem ggX5_complaint_X2_hasUser : GoodIn wsX5_complaint wsX2_hasUser := goodIn_r _ [6, 7, 172, 173, 174, 175, 176, 177, 178, 179, 180, 181] (by decide +kernel) (by decide +kernel)
set_option maxRecDepth 20000 in
theorem gX5_complaint_X2_hasUser : GoodIn wsX5_complaint (wsV RX5 86 RX2 yX2_hasUser wsX2_hasUser) := goodIn_app (goodIn_of _ (by decide +kernel)) ggX5_complaint_X2_hasUser
set_option maxRecDepth 20000 in
theorem ggX5_complaint_X2_isYounger : GoodIn wsX5_complaint wsX2_isYounger := goodIn_r _ [11, 12, 13, 172, 173, 174, 175, 176, 177, 178, 179, 180, 181, 182, 183, 184, 185, 186, 187, 188, 189, 190, 191, 192, 193] (by decide +kernel) (by decide +kernel)
set_option maxRecDepth 20000 in
theorem gX5_complaint_X2_isYounger : GoodIn wsX5_complaint (wsV RX5 194 RX2 yX2_isYounger wsX2_isYounger) := goodIn_app (goodIn_of _ (by decide +kernel)) ggX5_complaint_X2_isYounger
set_option maxRecDepth 20000 in
theorem ggX5_complaint_X5_judge : GoodIn wsX5_complaint wsX5_judge := goodIn_r _ [18, 19, 1, 20, 21, 22, 23, 24, 25, 26, 27, 28, 29, 30, 31, 32, 33, 34, 35, 5, 36, 37, 38, 39, 40, 41, 42, 43, 44, 45, 46, 47, 48, 49, 50, 7, 12, 51, 52, 53, 54, 55, 56, 57, 58, 59, 60, 61, 62, 63, 64, 65, 66, 67, 68, 69, 70, 71, 72, 73, 74, 75, 76, 77, 78, 79, 80, 81, 82, 83, 84, 85, 86, 87, 88, 89, 90, 91, 92, 93, 94, 95, 96, 97, 98, 99, 100, 101, 102, 103, 104, 105, 106, 107, 3, 4, 6, 108, 109, 110, 111, 112, 113, 114, 115, 116, 117, 118, 119, 120, 121, 122, 123, 124, 125, 126, 127, 128, 17, 129, 130, 131, 132, 133, 134, 135, 136, 137, 138, 139, 140, 141, 142, 143, 144, 145, 146, 147, 148, 149, 150, 151, 152, 153, 154, 155, 156, 157, 158, 159, 160, 161, 162, 163, 164, 165, 166, 167, 168, 169, 170, 171, 194, 195, 196, 197, 198, 199, 172, 173, 174, 175, 176, 177, 178, 179, 180, 181, 182, 183, 184, 185, 186, 187, 188, 189, 190, 191, 192, 193, 200, 201, 202] (by decide +kernel) (by decide +kernel)
set_option maxRecDepth 20000 in
theorem gX5_complaint_X5_judge : GoodIn wsX5_complaint (wsV RX5 200 RX5 yX5_judge wsX5_judge) := goodIn_app (goodIn_of _ (by decide +kernel)) ggX5_complaint_X5_judge
theorem dX5_complaint_0 : decode cX5_complaint 0 = .ok (.aload_n 0, 1) := by decide +kernel
theorem dX5_complaint_1 : decode cX5_complaint 1 = .ok (.getfield 10, 3) := by decide +kernel
theorem dX5_complaint_4 : decode cX5_complaint 4 = .ok (.iload_n 1, 1) := by decide +kernel
theorem dX5_complaint_5 : decode cX5_complaint 5 = .ok (.invokevirtual 86, 3) := by decide +kernel
theorem dX5_complaint_8 : decode cX5_complaint 8 = .ok (.ifCond .eq 14, 3) := by decide +kernel
theorem dX5_complaint_11 : decode cX5_complaint 11 = .ok (.aload_n 0, 1) := by decide +kernel
theorem dX5_complaint_12 : decode cX5_complaint 12 = .ok (.getfield 10, 3) := by decide +kernel
theorem dX5_complaint_15 : decode cX5_complaint 15 = .ok (.iload_n 2, 1) := by decide +kernel
theorem dX5_complaint_16 : decode cX5_complaint 16 = .ok (.invokevirtual 86, 3) := by decide +kernel
theorem dX5_complaint_19 : decode cX5_complaint 19 = .ok (.ifCond .ne 6, 3) := by decide +kernel
theorem dX5_complaint_22 : decode cX5_complaint 22 = .ok (.bipush (-101), 2) := by decide +kernel
theorem dX5_complaint_24 : decode cX5_complaint 24 = .ok (.ireturn, 1) := by decide +kernel
theorem dX5_complaint_25 : decode cX5_complaint 25 = .ok (.aload_n 0, 1) := by decide +kernel
theorem dX5_complaint_26 : decode cX5_complaint 26 = .ok (.getfield 10, 3) := by decide +kernel
theorem dX5_complaint_29 : decode cX5_complaint 29 = .ok (.iload_n 2, 1) := by decide +kernel
theorem dX5_complaint_30 : decode cX5_complaint 30 = .ok (.iload_n 1, 1) := by decide +kernel
theorem dX5_complaint_31 : decode cX5_complaint 31 = .ok (.invokevirtual 194, 3) := by decide +kernel
theorem dX5_complaint_34 : decode cX5_complaint 34 = .ok (.ifCond .ne 6, 3) := by decide +kernel
theorem dX5_complaint_37 : decode cX5_complaint 37 = .ok (.bipush (-103), 2) := by decide +kernel
theorem dX5_complaint_39 : decode cX5_complaint 39 = .ok (.ireturn, 1) := by decide +kernel
theorem dX5_complaint_40 : decode cX5_complaint 40 = .ok (.aload_n 0, 1) := by decide +kernel
theorem dX5_complaint_41 : decode cX5_complaint 41 = .ok (.iload_n 1, 1) := by decide +kernel
theorem dX5_complaint_42 : decode cX5_complaint 42 = .ok (.iload_n 2, 1) := by decide +kernel
theorem dX5_complaint_43 : decode cX5_complaint 43 = .ok (.invokevirtual 200, 3) := by decide +kernel
theorem dX5_complaint_46 : decode cX5_complaint 46 = .ok (.ireturn, 1) := by decide +kernel
set_option maxRecDepth 20000 in
theorem ggX5_settle_X5_judge : GoodIn wsX5_settle wsX5_judge := goodIn_r _ [10, 11, 1, 12, 13, 14, 15, 16, 17, 18, 19, 20, 21, 22, 23, 24, 25, 26, 27, 28, 29, 30, 31, 32, 33, 34, 35, 36, 37, 38, 39, 40, 41, 42, 43, 44, 45, 46, 47, 48, 49, 50, 51, 52, 53, 54, 55, 56, 57, 58, 59, 60, 61, 62, 63, 64, 65, 66, 67, 68, 69, 70, 71, 72, 73, 74, 75, 76, 77, 78, 79, 80, 81, 82, 83, 84, 85, 86, 87, 88, 89, 90, 91, 92, 93, 94, 95, 96, 97, 98, 99, 100, 101, 102, 103, 104, 105, 106, 107, 108, 109, 110, 111, 112, 113, 114, 115, 116, 117, 118, 119, 120, 121, 122, 123, 124, 125, 126, 9, 127, 128, 4, 5, 129, 130, 131, 132, 133, 134, 135, 136, 137, 138, 139, 140, 141, 142, 143, 144, 145, 146, 147, 148, 149, 150, 151, 152, 153, 154, 155, 156, 157, 158, 159, 160, 161, 162, 163, 164, 165, 166, 167, 190, 191, 192, 193, 194, 195, 168, 169, 170, 171, 172, 173, 174, 175, 176, 177, 178, 179, 180, 181, 182, 183, 184, 185, 186, 187, 188, 189, 196, 197, 198] (by decide +kernel) (by decide +kernel)
set_option maxRecDepth 20000 in
theorem gX5_settle_X5_judge : GoodIn wsX5_settle (wsV RX5 200 RX5 yX5_judge wsX5_judge) := goodIn_app (goodIn_of _ (by decide +kernel)) ggX5_settle_X5_judge
theorem dX5_settle_0 : decode cX5_settle 0 = .ok (.iconst 0, 1) := by decide +kernel
theorem dX5_settle_1 : decode cX5_settle 1 = .ok (.istore_n 1, 1) := by decide +kernel
theorem dX5_settle_2 : decode cX5_settle 2 = .ok (.iconst 0, 1) := by decide +kernel
theorem dX5_settle_3 : decode cX5_settle 3 = .ok (.istore_n 2, 1) := by decide +kernel
theorem dX5_settle_4 : decode cX5_settle 4 = .ok (.iload_n 2, 1) := by decide +kernel
theorem dX5_settle_5 : decode cX5_settle 5 = .ok (.aload_n 0, 1) := by decide +kernel
theorem dX5_settle_6 : decode cX5_settle 6 = .ok (.getfield 10, 3) := by decide +kernel
theorem dX5_settle_9 : decode cX5_settle 9 = .ok (.getfield 83, 3) := by decide +kernel
theorem dX5_settle_12 : decode cX5_settle 12 = .ok (.if_icmp .ge 80, 3) := by decide +kernel
theorem dX5_settle_15 : decode cX5_settle 15 = .ok (.aload_n 0, 1) := by decide +kernel
theorem dX5_settle_16 : decode cX5_settle 16 = .ok (.getfield 10, 3) := by decide +kernel
theorem dX5_settle_19 : decode cX5_settle 19 = .ok (.getfield 83, 3) := by decide +kernel
theorem dX5_settle_22 : decode cX5_settle 22 = .ok (.iconst 1, 1) := by decide +kernel
theorem dX5_settle_23 : decode cX5_settle 23 = .ok (.isub, 1) := by decide +kernel
theorem dX5_settle_24 : decode cX5_settle 24 = .ok (.istore_n 3, 1) := by decide +kernel
theorem dX5_settle_25 : decode cX5_settle 25 = .ok (.iload_n 3, 1) := by decide +kernel
theorem dX5_settle_26 : decode cX5_settle 26 = .ok (.iload_n 2, 1) := by decide +kernel
theorem dX5_settle_27 : decode cX5_settle 27 = .ok (.if_icmp .le 59, 3) := by decide +kernel
theorem dX5_settle_30 : decode cX5_settle 30 = .ok (.aload_n 0, 1) := by decide +kernel
theorem dX5_settle_31 : decode cX5_settle 31 = .ok (.aload_n 0, 1) := by decide +kernel
theorem dX5_settle_32 : decode cX5_settle 32 = .ok (.getfield 10, 3) := by decide +kernel
theorem dX5_settle_35 : decode cX5_settle 35 = .ok (.getfield 138, 3) := by decide +kernel
theorem dX5_settle_38 : decode cX5_settle 38 = .ok (.iload_n 2, 1) := by decide +kernel
theorem dX5_settle_39 : decode cX5_settle 39 = .ok (.iaload, 1) := by decide +kernel
theorem dX5_settle_40 : decode cX5_settle 40 = .ok (.aload_n 0, 1) := by decide +kernel
theorem dX5_settle_41 : decode cX5_settle 41 = .ok (.getfield 10, 3) := by decide +kernel
theorem dX5_settle_44 : decode cX5_settle 44 = .ok (.getfield 138, 3) := by decide +kernel
theorem dX5_settle_47 : decode cX5_settle 47 = .ok (.iload_n 3, 1) := by decide +kernel
theorem dX5_settle_48 : decode cX5_settle 48 = .ok (.iaload, 1) := by decide +kernel
theorem dX5_settle_49 : decode cX5_settle 49 = .ok (.invokevirtual 200, 3) := by decide +kernel
theorem dX5_settle_52 : decode cX5_settle 52 = .ok (.iconst 2, 1) := by decide +kernel
theorem dX5_settle_53 : decode cX5_settle 53 = .ok (.if_icmp .ne 27, 3) := by decide +kernel
theorem dX5_settle_56 : decode cX5_settle 56 = .ok (.aload_n 0, 1) := by decide +kernel
theorem dX5_settle_57 : decode cX5_settle 57 = .ok (.getfield 10, 3) := by decide +kernel
theorem dX5_settle_60 : decode cX5_settle 60 = .ok (.getfield 92, 3) := by decide +kernel
theorem dX5_settle_63 : decode cX5_settle 63 = .ok (.aload_n 0, 1) := by decide +kernel
theorem dX5_settle_64 : decode cX5_settle 64 = .ok (.getfield 10, 3) := by decide +kernel
theorem dX5_settle_67 : decode cX5_settle 67 = .ok (.getfield 138, 3) := by decide +kernel
theorem dX5_settle_70 : decode cX5_settle 70 = .ok (.iload_n 3, 1) := by decide +kernel
theorem dX5_settle_71 : decode cX5_settle 71 = .ok (.iaload, 1) := by decide +kernel
theorem dX5_settle_72 : decode cX5_settle 72 = .ok (.aaload, 1) := by decide +kernel
theorem dX5_settle_73 : decode cX5_settle 73 = .ok (.iconst 1, 1) := by decide +kernel
theorem dX5_settle_74 : decode cX5_settle 74 = .ok (.putfield 203, 3) := by decide +kernel
theorem dX5_settle_77 : decode cX5_settle 77 = .ok (.iinc 1 1, 3) := by decide +kernel
theorem dX5_settle_80 : decode cX5_settle 80 = .ok (.iinc 3 (-1), 3) := by decide +kernel
theorem dX5_settle_83 : decode cX5_settle 83 = .ok (.goto (-58), 3) := by decide +kernel
theorem dX5_settle_86 : decode cX5_settle 86 = .ok (.iinc 2 1, 3) := by decide +kernel
theorem dX5_settle_89 : decode cX5_settle 89 = .ok (.goto (-85), 3) := by decide +kernel
theorem dX5_settle_92 : decode cX5_settle 92 = .ok (.iload_n 1, 1) := by decide +kernel
theorem dX5_settle_93 : decode cX5_settle 93 = .ok (.ireturn, 1) := by decide +kernel
set_option maxRecDepth 20000 in
theorem ggX5_isShut_X2_hasUser : GoodIn wsX5_isShut wsX2_hasUser := goodIn_r _ [8, 9, 16, 17, 18, 19, 20, 21, 22, 23, 24, 25] (by decide +kernel) (by decide +kernel)
set_option maxRecDepth 20000 in
theorem gX5_isShut_X2_hasUser : GoodIn wsX5_isShut (wsV RX5 86 RX2 yX2_hasUser wsX2_hasUser) := goodIn_app (goodIn_of _ (by decide +kernel)) ggX5_isShut_X2_hasUser
theorem dX5_isShut_0 : decode cX5_isShut 0 = .ok (.aload_n 0, 1) := by decide +kernel
theorem dX5_isShut_1 : decode cX5_isShut 1 = .ok (.getfield 10, 3) := by decide +kernel
theorem dX5_isShut_4 : decode cX5_isShut 4 = .ok (.iload_n 1, 1) := by decide +kernel
theorem dX5_isShut_5 : decode cX5_isShut 5 = .ok (.invokevirtual 86, 3) := by decide +kernel
theorem dX5_isShut_8 : decode cX5_isShut 8 = .ok (.ifCond .ne 6, 3) := by decide +kernel
theorem dX5_isShut_11 : decode cX5_isShut 11 = .ok (.bipush (-101), 2) := by decide +kernel
theorem dX5_isShut_13 : decode cX5_isShut 13 = .ok (.ireturn, 1) := by decide +kernel
theorem dX5_isShut_14 : decode cX5_isShut 14 = .ok (.aload_n 0, 1) := by decide +kernel
theorem dX5_isShut_15 : decode cX5_isShut 15 = .ok (.getfield 10, 3) := by decide +kernel
theorem dX5_isShut_18 : decode cX5_isShut 18 = .ok (.getfield 92, 3) := by decide +kernel
theorem dX5_isShut_21 : decode cX5_isShut 21 = .ok (.iload_n 1, 1) := by decide +kernel
theorem dX5_isShut_22 : decode cX5_isShut 22 = .ok (.aaload, 1) := by decide +kernel
theorem dX5_isShut_23 : decode cX5_isShut 23 = .ok (.getfield 203, 3) := by decide +kernel
theorem dX5_isShut_26 : decode cX5_isShut 26 = .ok (.ifCond .eq 7, 3) := by decide +kernel
theorem dX5_isShut_29 : decode cX5_isShut 29 = .ok (.iconst 1, 1) := by decide +kernel
theorem dX5_isShut_30 : decode cX5_isShut 30 = .ok (.goto 4, 3) := by decide +kernel
theorem dX5_isShut_33 : decode cX5_isShut 33 = .ok (.iconst 0, 1) := by decide +kernel
theorem dX5_isShut_34 : decode cX5_isShut 34 = .ok (.ireturn, 1) := by decide +kernel
set_option maxRecDepth 20000 in
theorem ggX5_append_X5_isWithin : GoodIn wsX5_append wsX5_isWithin := goodIn_r _ [6] (by decide +kernel) (by decide +kernel)
set_option maxRecDepth 20000 in
theorem gX5_append_X5_isWithin : GoodIn wsX5_append (va_wsS RX5 73 yX5_isWithin wsX5_isWithin) := goodIn_app (goodIn_of _ (by decide +kernel)) ggX5_append_X5_isWithin
set_option maxRecDepth 20000 in
theorem ggX5_append_X3_isFull : GoodIn wsX5_append wsX3_isFull := goodIn_r _ [11, 12, 25, 26, 27, 28, 29] (by decide +kernel) (by decide +kernel)
set_option maxRecDepth 20000 in
theorem gX5_append_X3_isFull : GoodIn wsX5_append (wsV RX5 207 RX3 yX3_isFull wsX3_isFull) := goodIn_app (goodIn_of _ (by decide +kernel)) ggX5_append_X3_isFull
set_option maxRecDepth 20000 in
theorem ggX5_append_X3_put : GoodIn wsX5_append wsX3_put := goodIn_r _ [16, 17, 12, 18, 8, 9, 10, 11, 25, 26, 27, 28, 29] (by decide +kernel) (by decide +kernel)
set_option maxRecDepth 20000 in
theorem gX5_append_X3_put : GoodIn wsX5_append (wsV RX5 210 RX3 yX3_put wsX3_put) := goodIn_app (goodIn_of _ (by decide +kernel)) ggX5_append_X3_put
theorem dX5_append_0 : decode cX5_append 0 = .ok (.iload_n 1, 1) := by decide +kernel
theorem dX5_append_1 : decode cX5_append 1 = .ok (.iconst 0, 1) := by decide +kernel
theorem dX5_append_2 : decode cX5_append 2 = .ok (.bipush 127, 2) := by decide +kernel
theorem dX5_append_4 : decode cX5_append 4 = .ok (.invokestatic 73, 3) := by decide +kernel
theorem dX5_append_7 : decode cX5_append 7 = .ok (.ifCond .ne 6, 3) := by decide +kernel
theorem dX5_append_10 : decode cX5_append 10 = .ok (.bipush (-102), 2) := by decide +kernel
theorem dX5_append_12 : decode cX5_append 12 = .ok (.ireturn, 1) := by decide +kernel
theorem dX5_append_13 : decode cX5_append 13 = .ok (.aload_n 0, 1) := by decide +kernel
theorem dX5_append_14 : decode cX5_append 14 = .ok (.getfield 37, 3) := by decide +kernel
theorem dX5_append_17 : decode cX5_append 17 = .ok (.invokevirtual 207, 3) := by decide +kernel
theorem dX5_append_20 : decode cX5_append 20 = .ok (.ifCond .eq 6, 3) := by decide +kernel
theorem dX5_append_23 : decode cX5_append 23 = .ok (.bipush (-104), 2) := by decide +kernel
theorem dX5_append_25 : decode cX5_append 25 = .ok (.ireturn, 1) := by decide +kernel
theorem dX5_append_26 : decode cX5_append 26 = .ok (.aload_n 0, 1) := by decide +kernel
theorem dX5_append_27 : decode cX5_append 27 = .ok (.getfield 37, 3) := by decide +kernel
theorem dX5_append_30 : decode cX5_append 30 = .ok (.iload_n 1, 1) := by decide +kernel
theorem dX5_append_31 : decode cX5_append 31 = .ok (.invokevirtual 210, 3) := by decide +kernel
theorem dX5_append_34 : decode cX5_append 34 = .ok (.aload_n 0, 1) := by decide +kernel
theorem dX5_append_35 : decode cX5_append 35 = .ok (.getfield 37, 3) := by decide +kernel
theorem dX5_append_38 : decode cX5_append 38 = .ok (.getfield 214, 3) := by decide +kernel
theorem dX5_append_41 : decode cX5_append 41 = .ok (.ireturn, 1) := by decide +kernel
set_option maxRecDepth 20000 in
theorem ggX5_save_X5_isWithin : GoodIn wsX5_save wsX5_isWithin := goodIn_r _ [8] (by decide +kernel) (by decide +kernel)
set_option maxRecDepth 20000 in
theorem gX5_save_X5_isWithin : GoodIn wsX5_save (va_wsS RX5 73 yX5_isWithin wsX5_isWithin) := goodIn_app (goodIn_of _ (by decide +kernel)) ggX5_save_X5_isWithin
set_option maxRecDepth 20000 in
theorem ggX5_save_X2_copyFrom : GoodIn wsX5_save wsX2_copyFrom := goodIn_r _ [13, 14, 15, 16, 17, 18, 19, 20, 21, 22, 23, 24, 25, 26, 27, 28, 29, 30, 31, 32, 33, 34, 35, 36, 37, 38, 39, 40, 41, 42, 43, 44, 45, 46, 47, 48, 49, 50, 51, 52, 53, 54, 55, 62, 63, 64, 65, 66, 67, 68, 69, 70, 71, 72, 73, 74, 75, 76, 77, 78, 79, 80, 81, 82, 83, 84, 85, 86] (by decide +kernel) (by decide +kernel)
set_option maxRecDepth 20000 in
theorem gX5_save_X2_copyFrom : GoodIn wsX5_save (wsV RX5 172 RX2 yX2_copyFrom wsX2_copyFrom) := goodIn_app (goodIn_of _ (by decide +kernel)) ggX5_save_X2_copyFrom
theorem dX5_save_0 : decode cX5_save 0 = .ok (.iload_n 1, 1) := by decide +kernel
theorem dX5_save_1 : decode cX5_save 1 = .ok (.iconst 0, 1) := by decide +kernel
theorem dX5_save_2 : decode cX5_save 2 = .ok (.iconst 1, 1) := by decide +kernel
theorem dX5_save_3 : decode cX5_save 3 = .ok (.invokestatic 73, 3) := by decide +kernel
theorem dX5_save_6 : decode cX5_save 6 = .ok (.ifCond .ne 6, 3) := by decide +kernel
theorem dX5_save_9 : decode cX5_save 9 = .ok (.bipush (-101), 2) := by decide +kernel
theorem dX5_save_11 : decode cX5_save 11 = .ok (.ireturn, 1) := by decide +kernel
theorem dX5_save_12 : decode cX5_save 12 = .ok (.aload_n 0, 1) := by decide +kernel
theorem dX5_save_13 : decode cX5_save 13 = .ok (.getfield 19, 3) := by decide +kernel
theorem dX5_save_16 : decode cX5_save 16 = .ok (.iload_n 1, 1) := by decide +kernel
theorem dX5_save_17 : decode cX5_save 17 = .ok (.aaload, 1) := by decide +kernel
theorem dX5_save_18 : decode cX5_save 18 = .ok (.aload_n 0, 1) := by decide +kernel
theorem dX5_save_19 : decode cX5_save 19 = .ok (.getfield 10, 3) := by decide +kernel
theorem dX5_save_22 : decode cX5_save 22 = .ok (.invokevirtual 172, 3) := by decide +kernel
theorem dX5_save_25 : decode cX5_save 25 = .ok (.aload_n 0, 1) := by decide +kernel
theorem dX5_save_26 : decode cX5_save 26 = .ok (.getfield 23, 3) := by decide +kernel
theorem dX5_save_29 : decode cX5_save 29 = .ok (.iload_n 1, 1) := by decide +kernel
theorem dX5_save_30 : decode cX5_save 30 = .ok (.iconst 1, 1) := by decide +kernel
theorem dX5_save_31 : decode cX5_save 31 = .ok (.bastore, 1) := by decide +kernel
theorem dX5_save_32 : decode cX5_save 32 = .ok (.aload_n 0, 1) := by decide +kernel
theorem dX5_save_33 : decode cX5_save 33 = .ok (.getfield 10, 3) := by decide +kernel
theorem dX5_save_36 : decode cX5_save 36 = .ok (.getfield 141, 3) := by decide +kernel
theorem dX5_save_39 : decode cX5_save 39 = .ok (.ireturn, 1) := by decide +kernel
set_option maxRecDepth 20000 in
theorem ggX5_restore_X5_isWithin : GoodIn wsX5_restore wsX5_isWithin := goodIn_r _ [8] (by decide +kernel) (by decide +kernel)
set_option maxRecDepth 20000 in
theorem gX5_restore_X5_isWithin : GoodIn wsX5_restore (va_wsS RX5 73 yX5_isWithin wsX5_isWithin) := goodIn_app (goodIn_of _ (by decide +kernel)) ggX5_restore_X5_isWithin
set_option maxRecDepth 20000 in
theorem ggX5_restore_X2_copyFrom : GoodIn wsX5_restore wsX2_copyFrom := goodIn_r _ [13, 14, 15, 16, 17, 18, 19, 20, 21, 22, 23, 24, 25, 26, 27, 28, 29, 30, 31, 32, 33, 34, 35, 36, 37, 38, 39, 40, 41, 42, 43, 44, 45, 46, 47, 48, 49, 50, 51, 52, 53, 54, 55, 62, 63, 64, 65, 66, 67, 68, 69, 70, 71, 72, 73, 74, 75, 76, 77, 78, 79, 80, 81, 82, 83, 84, 85, 86] (by decide +kernel) (by decide +kernel)
set_option maxRecDepth 20000 in
theorem gX5_restore_X2_copyFrom : GoodIn wsX5_restore (wsV RX5 172 RX2 yX2_copyFrom wsX2_copyFrom) := goodIn_app (goodIn_of _ (by decide +kernel)) ggX5_restore_X2_copyFrom
theorem dX5_restore_0 : decode cX5_restore 0 = .ok (.iload_n 1, 1) := by decide +kernel
theorem dX5_restore_1 : decode cX5_restore 1 = .ok (.iconst 0, 1) := by decide +kernel
theorem dX5_restore_2 : decode cX5_restore 2 = .ok (.iconst 1, 1) := by decide +kernel
theorem dX5_restore_3 : decode cX5_restore 3 = .ok (.invokestatic 73, 3) := by decide +kernel
theorem dX5_restore_6 : decode cX5_restore 6 = .ok (.ifCond .ne 6, 3) := by decide +kernel
theorem dX5_restore_9 : decode cX5_restore 9 = .ok (.bipush (-101), 2) := by decide +kernel
theorem dX5_restore_11 : decode cX5_restore 11 = .ok (.ireturn, 1) := by decide +kernel
theorem dX5_restore_12 : decode cX5_restore 12 = .ok (.aload_n 0, 1) := by decide +kernel
theorem dX5_restore_13 : decode cX5_restore 13 = .ok (.getfield 23, 3) := by decide +kernel
theorem dX5_restore_16 : decode cX5_restore 16 = .ok (.iload_n 1, 1) := by decide +kernel
theorem dX5_restore_17 : decode cX5_restore 17 = .ok (.baload, 1) := by decide +kernel
theorem dX5_restore_18 : decode cX5_restore 18 = .ok (.ifCond .ne 6, 3) := by decide +kernel
theorem dX5_restore_21 : decode cX5_restore 21 = .ok (.bipush (-103), 2) := by decide +kernel
theorem dX5_restore_23 : decode cX5_restore 23 = .ok (.ireturn, 1) := by decide +kernel
theorem dX5_restore_24 : decode cX5_restore 24 = .ok (.aload_n 0, 1) := by decide +kernel
theorem dX5_restore_25 : decode cX5_restore 25 = .ok (.getfield 10, 3) := by decide +kernel
theorem dX5_restore_28 : decode cX5_restore 28 = .ok (.aload_n 0, 1) := by decide +kernel
theorem dX5_restore_29 : decode cX5_restore 29 = .ok (.getfield 19, 3) := by decide +kernel
theorem dX5_restore_32 : decode cX5_restore 32 = .ok (.iload_n 1, 1) := by decide +kernel
theorem dX5_restore_33 : decode cX5_restore 33 = .ok (.aaload, 1) := by decide +kernel
theorem dX5_restore_34 : decode cX5_restore 34 = .ok (.invokevirtual 172, 3) := by decide +kernel
theorem dX5_restore_37 : decode cX5_restore 37 = .ok (.aload_n 0, 1) := by decide +kernel
theorem dX5_restore_38 : decode cX5_restore 38 = .ok (.getfield 10, 3) := by decide +kernel
theorem dX5_restore_41 : decode cX5_restore 41 = .ok (.getfield 141, 3) := by decide +kernel
theorem dX5_restore_44 : decode cX5_restore 44 = .ok (.ireturn, 1) := by decide +kernel
set_option maxRecDepth 20000 in
theorem ggX5_checksum_X1_distribute : GoodIn wsX5_checksum wsX1_distribute := goodIn_r _ [14, 15, 16, 17, 18, 19, 20, 21, 22, 23, 24, 25, 26, 27, 28, 29, 30, 31, 32, 33, 34, 35, 36, 37, 38, 39, 40, 41, 42, 43, 44, 45, 46, 47, 48, 49, 50, 51, 52, 53, 54, 55, 56, 57, 58, 59, 60, 61, 62, 63, 64, 65, 66, 67, 68, 69, 70, 13, 71, 72, 73, 74, 75, 76, 77, 78, 79, 80, 81, 82, 83, 84, 85, 86, 87, 88, 89, 90, 91, 92, 93, 94, 95, 96, 97, 98, 99, 100, 101, 102, 103, 104, 105, 106, 107, 108, 109, 110, 111, 112, 113, 114, 115, 148, 149, 150, 151, 152, 153, 138, 139, 140, 141, 142, 143, 144, 145, 146, 147, 154, 155, 156, 157, 158, 159, 160, 161, 162, 163, 164, 165, 166, 167, 168] (by decide +kernel) (by decide +kernel)
set_option maxRecDepth 20000 in
theorem gX5_checksum_X1_distribute : GoodIn wsX5_checksum (wsV RX5 151 RX1 yX1_distribute wsX1_distribute) := goodIn_app (goodIn_of _ (by decide +kernel)) ggX5_checksum_X1_distribute
set_option maxRecDepth 20000 in
theorem ggX5_checksum_X1_lostIn : GoodIn wsX5_checksum wsX1_lostIn := goodIn_r _ [119, 84, 81, 148, 149, 150, 151, 152, 153] (by decide +kernel) (by decide +kernel)
set_option maxRecDepth 20000 in
theorem gX5_checksum_X1_lostIn : GoodIn wsX5_checksum (wsV RX5 161 RX1 yX1_lostIn wsX1_lostIn) := goodIn_app (goodIn_of _ (by decide +kernel)) ggX5_checksum_X1_lostIn
set_option maxRecDepth 20000 in
theorem ggX5_checksum_X5_withUser : GoodIn wsX5_checksum wsX5_withUser := goodIn_r _ [124, 2, 125, 4, 1, 126, 127, 128, 129, 130, 132, 133, 134, 135, 136, 137, 138, 139, 140, 141, 142, 143, 144, 145, 146, 147, 148, 149, 150, 151, 152, 153, 154, 155, 156, 157, 158, 159, 160, 161, 162, 163, 164, 165] (by decide +kernel) (by decide +kernel)
set_option maxRecDepth 20000 in
theorem gX5_checksum_X5_withUser : GoodIn wsX5_checksum (wsV RX5 230 RX5 yX5_withUser wsX5_withUser) := goodIn_app (goodIn_of _ (by decide +kernel)) ggX5_checksum_X5_withUser
set_option maxRecDepth 20000 in
theorem ggX5_checksum_X2_userInTurn : GoodIn wsX5_checksum wsX2_userInTurn := goodIn_r _ [39, 40, 41, 42, 43, 31, 32, 33, 34, 35, 138, 139, 140, 141, 142, 143, 144, 145, 146, 147, 154, 155, 156, 157, 158, 159, 160, 161, 162, 163, 164, 165] (by decide +kernel) (by decide +kernel)
set_option maxRecDepth 20000 in
theorem gX5_checksum_X2_userInTurn : GoodIn wsX5_checksum (wsV RX5 144 RX2 yX2_userInTurn wsX2_userInTurn) := goodIn_app (goodIn_of _ (by decide +kernel)) ggX5_checksum_X2_userInTurn
theorem dX5_checksum_0 : decode cX5_checksum 0 = .ok (.aload_n 0, 1) := by decide +kernel
theorem dX5_checksum_1 : decode cX5_checksum 1 = .ok (.getfield 30, 3) := by decide +kernel
theorem dX5_checksum_4 : decode cX5_checksum 4 = .ok (.aload_n 0, 1) := by decide +kernel
theorem dX5_checksum_5 : decode cX5_checksum 5 = .ok (.getfield 10, 3) := by decide +kernel
theorem dX5_checksum_8 : decode cX5_checksum 8 = .ok (.invokevirtual 151, 3) := by decide +kernel
theorem dX5_checksum_11 : decode cX5_checksum 11 = .ok (.ldc2_w 226, 3) := by decide +kernel
theorem dX5_checksum_14 : decode cX5_checksum 14 = .ok (.lstore_n 1, 1) := by decide +kernel
theorem dX5_checksum_15 : decode cX5_checksum 15 = .ok (.ldc2_w 228, 3) := by decide +kernel
theorem dX5_checksum_18 : decode cX5_checksum 18 = .ok (.lload_n 1, 1) := by decide +kernel
theorem dX5_checksum_19 : decode cX5_checksum 19 = .ok (.lmul, 1) := by decide +kernel
theorem dX5_checksum_20 : decode cX5_checksum 20 = .ok (.aload_n 0, 1) := by decide +kernel
theorem dX5_checksum_21 : decode cX5_checksum 21 = .ok (.getfield 10, 3) := by decide +kernel
theorem dX5_checksum_24 : decode cX5_checksum 24 = .ok (.getfield 141, 3) := by decide +kernel
theorem dX5_checksum_27 : decode cX5_checksum 27 = .ok (.i2l, 1) := by decide +kernel
theorem dX5_checksum_28 : decode cX5_checksum 28 = .ok (.ladd, 1) := by decide +kernel
theorem dX5_checksum_29 : decode cX5_checksum 29 = .ok (.lstore_n 1, 1) := by decide +kernel
theorem dX5_checksum_30 : decode cX5_checksum 30 = .ok (.ldc2_w 228, 3) := by decide +kernel
theorem dX5_checksum_33 : decode cX5_checksum 33 = .ok (.lload_n 1, 1) := by decide +kernel
theorem dX5_checksum_34 : decode cX5_checksum 34 = .ok (.lmul, 1) := by decide +kernel
theorem dX5_checksum_35 : decode cX5_checksum 35 = .ok (.aload_n 0, 1) := by decide +kernel
theorem dX5_checksum_36 : decode cX5_checksum 36 = .ok (.getfield 10, 3) := by decide +kernel
theorem dX5_checksum_39 : decode cX5_checksum 39 = .ok (.getfield 57, 3) := by decide +kernel
theorem dX5_checksum_42 : decode cX5_checksum 42 = .ok (.i2l, 1) := by decide +kernel
theorem dX5_checksum_43 : decode cX5_checksum 43 = .ok (.ladd, 1) := by decide +kernel
theorem dX5_checksum_44 : decode cX5_checksum 44 = .ok (.lstore_n 1, 1) := by decide +kernel
theorem dX5_checksum_45 : decode cX5_checksum 45 = .ok (.ldc2_w 228, 3) := by decide +kernel
theorem dX5_checksum_48 : decode cX5_checksum 48 = .ok (.lload_n 1, 1) := by decide +kernel
theorem dX5_checksum_49 : decode cX5_checksum 49 = .ok (.lmul, 1) := by decide +kernel
theorem dX5_checksum_50 : decode cX5_checksum 50 = .ok (.aload_n 0, 1) := by decide +kernel
theorem dX5_checksum_51 : decode cX5_checksum 51 = .ok (.getfield 10, 3) := by decide +kernel
theorem dX5_checksum_54 : decode cX5_checksum 54 = .ok (.getfield 83, 3) := by decide +kernel
theorem dX5_checksum_57 : decode cX5_checksum 57 = .ok (.i2l, 1) := by decide +kernel
theorem dX5_checksum_58 : decode cX5_checksum 58 = .ok (.ladd, 1) := by decide +kernel
theorem dX5_checksum_59 : decode cX5_checksum 59 = .ok (.lstore_n 1, 1) := by decide +kernel
theorem dX5_checksum_60 : decode cX5_checksum 60 = .ok (.iconst 0, 1) := by decide +kernel
theorem dX5_checksum_61 : decode cX5_checksum 61 = .ok (.istore_n 3, 1) := by decide +kernel
theorem dX5_checksum_62 : decode cX5_checksum 62 = .ok (.iload_n 3, 1) := by decide +kernel
theorem dX5_checksum_63 : decode cX5_checksum 63 = .ok (.aload_n 0, 1) := by decide +kernel
theorem dX5_checksum_64 : decode cX5_checksum 64 = .ok (.getfield 10, 3) := by decide +kernel
theorem dX5_checksum_67 : decode cX5_checksum 67 = .ok (.getfield 57, 3) := by decide +kernel
theorem dX5_checksum_70 : decode cX5_checksum 70 = .ok (.if_icmp .ge 42, 3) := by decide +kernel
theorem dX5_checksum_73 : decode cX5_checksum 73 = .ok (.ldc2_w 228, 3) := by decide +kernel
theorem dX5_checksum_76 : decode cX5_checksum 76 = .ok (.lload_n 1, 1) := by decide +kernel
theorem dX5_checksum_77 : decode cX5_checksum 77 = .ok (.lmul, 1) := by decide +kernel
theorem dX5_checksum_78 : decode cX5_checksum 78 = .ok (.aload_n 0, 1) := by decide +kernel
theorem dX5_checksum_79 : decode cX5_checksum 79 = .ok (.getfield 30, 3) := by decide +kernel
theorem dX5_checksum_82 : decode cX5_checksum 82 = .ok (.getfield 158, 3) := by decide +kernel
theorem dX5_checksum_85 : decode cX5_checksum 85 = .ok (.iload_n 3, 1) := by decide +kernel
theorem dX5_checksum_86 : decode cX5_checksum 86 = .ok (.iaload, 1) := by decide +kernel
theorem dX5_checksum_87 : decode cX5_checksum 87 = .ok (.i2l, 1) := by decide +kernel
theorem dX5_checksum_88 : decode cX5_checksum 88 = .ok (.ladd, 1) := by decide +kernel
theorem dX5_checksum_89 : decode cX5_checksum 89 = .ok (.lstore_n 1, 1) := by decide +kernel
theorem dX5_checksum_90 : decode cX5_checksum 90 = .ok (.ldc2_w 228, 3) := by decide +kernel
theorem dX5_checksum_93 : decode cX5_checksum 93 = .ok (.lload_n 1, 1) := by decide +kernel
theorem dX5_checksum_94 : decode cX5_checksum 94 = .ok (.lmul, 1) := by decide +kernel
theorem dX5_checksum_95 : decode cX5_checksum 95 = .ok (.aload_n 0, 1) := by decide +kernel
theorem dX5_checksum_96 : decode cX5_checksum 96 = .ok (.getfield 30, 3) := by decide +kernel
theorem dX5_checksum_99 : decode cX5_checksum 99 = .ok (.iload_n 3, 1) := by decide +kernel
theorem dX5_checksum_100 : decode cX5_checksum 100 = .ok (.invokevirtual 161, 3) := by decide +kernel
theorem dX5_checksum_103 : decode cX5_checksum 103 = .ok (.i2l, 1) := by decide +kernel
theorem dX5_checksum_104 : decode cX5_checksum 104 = .ok (.ladd, 1) := by decide +kernel
theorem dX5_checksum_105 : decode cX5_checksum 105 = .ok (.lstore_n 1, 1) := by decide +kernel
theorem dX5_checksum_106 : decode cX5_checksum 106 = .ok (.iinc 3 1, 3) := by decide +kernel
theorem dX5_checksum_109 : decode cX5_checksum 109 = .ok (.goto (-47), 3) := by decide +kernel
theorem dX5_checksum_112 : decode cX5_checksum 112 = .ok (.iconst 0, 1) := by decide +kernel
theorem dX5_checksum_113 : decode cX5_checksum 113 = .ok (.istore_n 3, 1) := by decide +kernel
theorem dX5_checksum_114 : decode cX5_checksum 114 = .ok (.iload_n 3, 1) := by decide +kernel
theorem dX5_checksum_115 : decode cX5_checksum 115 = .ok (.aload_n 0, 1) := by decide +kernel
theorem dX5_checksum_116 : decode cX5_checksum 116 = .ok (.getfield 10, 3) := by decide +kernel
theorem dX5_checksum_119 : decode cX5_checksum 119 = .ok (.getfield 83, 3) := by decide +kernel
theorem dX5_checksum_122 : decode cX5_checksum 122 = .ok (.if_icmp .ge 16, 3) := by decide +kernel
theorem dX5_checksum_125 : decode cX5_checksum 125 = .ok (.aload_n 0, 1) := by decide +kernel
theorem dX5_checksum_126 : decode cX5_checksum 126 = .ok (.lload_n 1, 1) := by decide +kernel
theorem dX5_checksum_127 : decode cX5_checksum 127 = .ok (.iload_n 3, 1) := by decide +kernel
theorem dX5_checksum_128 : decode cX5_checksum 128 = .ok (.invokevirtual 230, 3) := by decide +kernel
theorem dX5_checksum_131 : decode cX5_checksum 131 = .ok (.lstore_n 1, 1) := by decide +kernel
theorem dX5_checksum_132 : decode cX5_checksum 132 = .ok (.iinc 3 1, 3) := by decide +kernel
theorem dX5_checksum_135 : decode cX5_checksum 135 = .ok (.goto (-21), 3) := by decide +kernel
theorem dX5_checksum_138 : decode cX5_checksum 138 = .ok (.iconst 0, 1) := by decide +kernel
theorem dX5_checksum_139 : decode cX5_checksum 139 = .ok (.istore_n 3, 1) := by decide +kernel
theorem dX5_checksum_140 : decode cX5_checksum 140 = .ok (.iload_n 3, 1) := by decide +kernel
theorem dX5_checksum_141 : decode cX5_checksum 141 = .ok (.bipush 7, 2) := by decide +kernel
theorem dX5_checksum_143 : decode cX5_checksum 143 = .ok (.if_icmp .ge 26, 3) := by decide +kernel
theorem dX5_checksum_146 : decode cX5_checksum 146 = .ok (.ldc2_w 228, 3) := by decide +kernel
theorem dX5_checksum_149 : decode cX5_checksum 149 = .ok (.lload_n 1, 1) := by decide +kernel
theorem dX5_checksum_150 : decode cX5_checksum 150 = .ok (.lmul, 1) := by decide +kernel
theorem dX5_checksum_151 : decode cX5_checksum 151 = .ok (.aload_n 0, 1) := by decide +kernel
theorem dX5_checksum_152 : decode cX5_checksum 152 = .ok (.getfield 10, 3) := by decide +kernel
theorem dX5_checksum_155 : decode cX5_checksum 155 = .ok (.getfield 185, 3) := by decide +kernel
theorem dX5_checksum_158 : decode cX5_checksum 158 = .ok (.iload_n 3, 1) := by decide +kernel
theorem dX5_checksum_159 : decode cX5_checksum 159 = .ok (.iaload, 1) := by decide +kernel
theorem dX5_checksum_160 : decode cX5_checksum 160 = .ok (.i2l, 1) := by decide +kernel
theorem dX5_checksum_161 : decode cX5_checksum 161 = .ok (.ladd, 1) := by decide +kernel
theorem dX5_checksum_162 : decode cX5_checksum 162 = .ok (.lstore_n 1, 1) := by decide +kernel
theorem dX5_checksum_163 : decode cX5_checksum 163 = .ok (.iinc 3 1, 3) := by decide +kernel
theorem dX5_checksum_166 : decode cX5_checksum 166 = .ok (.goto (-26), 3) := by decide +kernel
theorem dX5_checksum_169 : decode cX5_checksum 169 = .ok (.ldc2_w 228, 3) := by decide +kernel
theorem dX5_checksum_172 : decode cX5_checksum 172 = .ok (.lload_n 1, 1) := by decide +kernel
theorem dX5_checksum_173 : decode cX5_checksum 173 = .ok (.lmul, 1) := by decide +kernel
theorem dX5_checksum_174 : decode cX5_checksum 174 = .ok (.aload_n 0, 1) := by decide +kernel
theorem dX5_checksum_175 : decode cX5_checksum 175 = .ok (.getfield 10, 3) := by decide +kernel
theorem dX5_checksum_178 : decode cX5_checksum 178 = .ok (.invokevirtual 144, 3) := by decide +kernel
theorem dX5_checksum_181 : decode cX5_checksum 181 = .ok (.i2l, 1) := by decide +kernel
theorem dX5_checksum_182 : decode cX5_checksum 182 = .ok (.ladd, 1) := by decide +kernel
theorem dX5_checksum_183 : decode cX5_checksum 183 = .ok (.lreturn, 1) := by decide +kernel
theorem dX5_withUser_0 : decode cX5_withUser 0 = .ok (.aload_n 0, 1) := by decide +kernel
theorem dX5_withUser_1 : decode cX5_withUser 1 = .ok (.getfield 10, 3) := by decide +kernel
theorem dX5_withUser_4 : decode cX5_withUser 4 = .ok (.getfield 92, 3) := by decide +kernel
theorem dX5_withUser_7 : decode cX5_withUser 7 = .ok (.iload_n 3, 1) := by decide +kernel
theorem dX5_withUser_8 : decode cX5_withUser 8 = .ok (.aaload, 1) := by decide +kernel
theorem dX5_withUser_9 : decode cX5_withUser 9 = .ok (.astore 4, 2) := by decide +kernel
theorem dX5_withUser_11 : decode cX5_withUser 11 = .ok (.lload_n 1, 1) := by decide +kernel
theorem dX5_withUser_12 : decode cX5_withUser 12 = .ok (.lstore 5, 2) := by decide +kernel
theorem dX5_withUser_14 : decode cX5_withUser 14 = .ok (.ldc2_w 228, 3) := by decide +kernel
theorem dX5_withUser_17 : decode cX5_withUser 17 = .ok (.lload 5, 2) := by decide +kernel
theorem dX5_withUser_19 : decode cX5_withUser 19 = .ok (.lmul, 1) := by decide +kernel
theorem dX5_withUser_20 : decode cX5_withUser 20 = .ok (.aload_n 0, 1) := by decide +kernel
theorem dX5_withUser_21 : decode cX5_withUser 21 = .ok (.getfield 30, 3) := by decide +kernel
theorem dX5_withUser_24 : decode cX5_withUser 24 = .ok (.getfield 234, 3) := by decide +kernel
theorem dX5_withUser_27 : decode cX5_withUser 27 = .ok (.iload_n 3, 1) := by decide +kernel
theorem dX5_withUser_28 : decode cX5_withUser 28 = .ok (.iaload, 1) := by decide +kernel
theorem dX5_withUser_29 : decode cX5_withUser 29 = .ok (.i2l, 1) := by decide +kernel
theorem dX5_withUser_30 : decode cX5_withUser 30 = .ok (.ladd, 1) := by decide +kernel
theorem dX5_withUser_31 : decode cX5_withUser 31 = .ok (.lstore 5, 2) := by decide +kernel
theorem dX5_withUser_33 : decode cX5_withUser 33 = .ok (.ldc2_w 228, 3) := by decide +kernel
theorem dX5_withUser_36 : decode cX5_withUser 36 = .ok (.lload 5, 2) := by decide +kernel
theorem dX5_withUser_38 : decode cX5_withUser 38 = .ok (.lmul, 1) := by decide +kernel
theorem dX5_withUser_39 : decode cX5_withUser 39 = .ok (.aload_n 0, 1) := by decide +kernel
theorem dX5_withUser_40 : decode cX5_withUser 40 = .ok (.getfield 30, 3) := by decide +kernel
theorem dX5_withUser_43 : decode cX5_withUser 43 = .ok (.getfield 155, 3) := by decide +kernel
theorem dX5_withUser_46 : decode cX5_withUser 46 = .ok (.iload_n 3, 1) := by decide +kernel
theorem dX5_withUser_47 : decode cX5_withUser 47 = .ok (.iaload, 1) := by decide +kernel
theorem dX5_withUser_48 : decode cX5_withUser 48 = .ok (.i2l, 1) := by decide +kernel
theorem dX5_withUser_49 : decode cX5_withUser 49 = .ok (.ladd, 1) := by decide +kernel
theorem dX5_withUser_50 : decode cX5_withUser 50 = .ok (.lstore 5, 2) := by decide +kernel
theorem dX5_withUser_52 : decode cX5_withUser 52 = .ok (.ldc2_w 228, 3) := by decide +kernel
theorem dX5_withUser_55 : decode cX5_withUser 55 = .ok (.lload 5, 2) := by decide +kernel
theorem dX5_withUser_57 : decode cX5_withUser 57 = .ok (.lmul, 1) := by decide +kernel
theorem dX5_withUser_58 : decode cX5_withUser 58 = .ok (.aload 4, 2) := by decide +kernel
theorem dX5_withUser_60 : decode cX5_withUser 60 = .ok (.getfield 113, 3) := by decide +kernel
theorem dX5_withUser_63 : decode cX5_withUser 63 = .ok (.i2l, 1) := by decide +kernel
theorem dX5_withUser_64 : decode cX5_withUser 64 = .ok (.ladd, 1) := by decide +kernel
theorem dX5_withUser_65 : decode cX5_withUser 65 = .ok (.lstore 5, 2) := by decide +kernel
theorem dX5_withUser_67 : decode cX5_withUser 67 = .ok (.ldc2_w 228, 3) := by decide +kernel
theorem dX5_withUser_70 : decode cX5_withUser 70 = .ok (.lload 5, 2) := by decide +kernel
theorem dX5_withUser_72 : decode cX5_withUser 72 = .ok (.lmul, 1) := by decide +kernel
theorem dX5_withUser_73 : decode cX5_withUser 73 = .ok (.aload 4, 2) := by decide +kernel
theorem dX5_withUser_75 : decode cX5_withUser 75 = .ok (.getfield 188, 3) := by decide +kernel
theorem dX5_withUser_78 : decode cX5_withUser 78 = .ok (.i2l, 1) := by decide +kernel
theorem dX5_withUser_79 : decode cX5_withUser 79 = .ok (.ladd, 1) := by decide +kernel
theorem dX5_withUser_80 : decode cX5_withUser 80 = .ok (.lstore 5, 2) := by decide +kernel
theorem dX5_withUser_82 : decode cX5_withUser 82 = .ok (.ldc2_w 228, 3) := by decide +kernel
theorem dX5_withUser_85 : decode cX5_withUser 85 = .ok (.lload 5, 2) := by decide +kernel
theorem dX5_withUser_87 : decode cX5_withUser 87 = .ok (.lmul, 1) := by decide +kernel
theorem dX5_withUser_88 : decode cX5_withUser 88 = .ok (.aload 4, 2) := by decide +kernel
theorem dX5_withUser_90 : decode cX5_withUser 90 = .ok (.getfield 203, 3) := by decide +kernel
theorem dX5_withUser_93 : decode cX5_withUser 93 = .ok (.ifCond .eq 7, 3) := by decide +kernel
theorem dX5_withUser_96 : decode cX5_withUser 96 = .ok (.iconst 1, 1) := by decide +kernel
theorem dX5_withUser_97 : decode cX5_withUser 97 = .ok (.goto 4, 3) := by decide +kernel
theorem dX5_withUser_100 : decode cX5_withUser 100 = .ok (.iconst 0, 1) := by decide +kernel
theorem dX5_withUser_101 : decode cX5_withUser 101 = .ok (.i2l, 1) := by decide +kernel
theorem dX5_withUser_102 : decode cX5_withUser 102 = .ok (.ladd, 1) := by decide +kernel
theorem dX5_withUser_103 : decode cX5_withUser 103 = .ok (.lreturn, 1) := by decide +kernel
set_option maxRecDepth 20000 in
theorem ggX5_unitsGotInTrial_X1_distribute : GoodIn wsX5_unitsGotInTrial wsX1_distribute := goodIn_r _ [9, 10, 11, 12, 13, 14, 15, 16, 17, 18, 19, 20, 21, 22, 23, 24, 25, 26, 27, 28, 29, 30, 31, 32, 33, 34, 35, 36, 37, 38, 39, 40, 41, 42, 43, 44, 45, 46, 47, 48, 49, 50, 51, 52, 53, 54, 55, 56, 57, 58, 59, 60, 61, 62, 63, 64, 65, 8, 66, 67, 68, 69, 70, 71, 72, 73, 74, 75, 76, 77, 78, 79, 80, 81, 82, 83, 84, 85, 86, 87, 88, 89, 90, 91, 92, 93, 94, 95, 96, 97, 98, 99, 100, 101, 102, 103, 104, 105, 106, 107, 108, 109, 110, 134, 135, 136, 137, 138, 139, 121, 122, 123, 124, 125, 126, 127, 128, 129, 130, 140, 141, 142, 143, 144, 145, 146, 147, 148, 149, 150, 151, 131, 132, 133] (by decide +kernel) (by decide +kernel)
set_option maxRecDepth 20000 in
theorem gX5_unitsGotInTrial_X1_distribute : GoodIn wsX5_unitsGotInTrial (wsV RX5 151 RX1 yX1_distribute wsX1_distribute) := goodIn_app (goodIn_of _ (by decide +kernel)) ggX5_unitsGotInTrial_X1_distribute
set_option maxRecDepth 20000 in
theorem ggX5_unitsGotInTrial_X1_unitsGot : GoodIn wsX5_unitsGotInTrial wsX1_unitsGot := goodIn_r _ [114, 11, 13, 121, 122, 123, 124, 125, 126, 127, 128, 129, 130, 134, 135, 136, 137, 138, 139] (by decide +kernel) (by decide +kernel)
set_option maxRecDepth 20000 in
theorem gX5_unitsGotInTrial_X1_unitsGot : GoodIn wsX5_unitsGotInTrial (wsV RX5 237 RX1 yX1_unitsGot wsX1_unitsGot) := goodIn_app (goodIn_of _ (by decide +kernel)) ggX5_unitsGotInTrial_X1_unitsGot
theorem dX5_unitsGotInTrial_0 : decode cX5_unitsGotInTrial 0 = .ok (.aload_n 0, 1) := by decide +kernel
theorem dX5_unitsGotInTrial_1 : decode cX5_unitsGotInTrial 1 = .ok (.getfield 16, 3) := by decide +kernel
theorem dX5_unitsGotInTrial_4 : decode cX5_unitsGotInTrial 4 = .ok (.getfield 61, 3) := by decide +kernel
theorem dX5_unitsGotInTrial_7 : decode cX5_unitsGotInTrial 7 = .ok (.iload_n 1, 1) := by decide +kernel
theorem dX5_unitsGotInTrial_8 : decode cX5_unitsGotInTrial 8 = .ok (.aaload, 1) := by decide +kernel
theorem dX5_unitsGotInTrial_9 : decode cX5_unitsGotInTrial 9 = .ok (.iload_n 2, 1) := by decide +kernel
theorem dX5_unitsGotInTrial_10 : decode cX5_unitsGotInTrial 10 = .ok (.putfield 65, 3) := by decide +kernel
theorem dX5_unitsGotInTrial_13 : decode cX5_unitsGotInTrial 13 = .ok (.aload_n 0, 1) := by decide +kernel
theorem dX5_unitsGotInTrial_14 : decode cX5_unitsGotInTrial 14 = .ok (.getfield 30, 3) := by decide +kernel
theorem dX5_unitsGotInTrial_17 : decode cX5_unitsGotInTrial 17 = .ok (.aload_n 0, 1) := by decide +kernel
theorem dX5_unitsGotInTrial_18 : decode cX5_unitsGotInTrial 18 = .ok (.getfield 16, 3) := by decide +kernel
theorem dX5_unitsGotInTrial_21 : decode cX5_unitsGotInTrial 21 = .ok (.invokevirtual 151, 3) := by decide +kernel
theorem dX5_unitsGotInTrial_24 : decode cX5_unitsGotInTrial 24 = .ok (.aload_n 0, 1) := by decide +kernel
theorem dX5_unitsGotInTrial_25 : decode cX5_unitsGotInTrial 25 = .ok (.getfield 30, 3) := by decide +kernel
theorem dX5_unitsGotInTrial_28 : decode cX5_unitsGotInTrial 28 = .ok (.aload_n 0, 1) := by decide +kernel
theorem dX5_unitsGotInTrial_29 : decode cX5_unitsGotInTrial 29 = .ok (.getfield 16, 3) := by decide +kernel
theorem dX5_unitsGotInTrial_32 : decode cX5_unitsGotInTrial 32 = .ok (.invokevirtual 237, 3) := by decide +kernel
theorem dX5_unitsGotInTrial_35 : decode cX5_unitsGotInTrial 35 = .ok (.ireturn, 1) := by decide +kernel
set_option maxRecDepth 20000 in
theorem ggX5_gainOf_X1_distribute : GoodIn wsX5_gainOf wsX1_distribute := goodIn_r _ [11, 12, 13, 14, 15, 16, 17, 18, 19, 20, 21, 22, 23, 24, 25, 26, 27, 28, 29, 30, 31, 32, 33, 34, 35, 36, 37, 38, 39, 40, 41, 42, 43, 44, 45, 46, 47, 48, 49, 50, 51, 52, 53, 54, 55, 56, 57, 58, 59, 60, 61, 62, 63, 64, 65, 66, 67, 10, 68, 69, 70, 71, 72, 73, 74, 75, 76, 77, 78, 79, 80, 81, 82, 83, 84, 85, 86, 87, 88, 89, 90, 91, 92, 93, 94, 95, 96, 97, 98, 99, 100, 101, 102, 103, 104, 105, 106, 107, 108, 109, 110, 111, 112, 152, 153, 154, 155, 156, 157, 158, 159, 160, 161, 162, 163, 164, 165, 166, 167, 168, 169, 170, 171, 172, 173, 174, 175, 176, 177, 178, 179, 180, 181, 182] (by decide +kernel) (by decide +kernel)
set_option maxRecDepth 20000 in
theorem gX5_gainOf_X1_distribute : GoodIn wsX5_gainOf (wsV RX5 151 RX1 yX1_distribute wsX1_distribute) := goodIn_app (goodIn_of _ (by decide +kernel)) ggX5_gainOf_X1_distribute
set_option maxRecDepth 20000 in
theorem ggX5_gainOf_X2_copyFrom : GoodIn wsX5_gainOf wsX2_copyFrom := goodIn_r _ [116, 117, 118, 119, 120, 121, 37, 38, 122, 23, 123, 40, 124, 28, 125, 126, 127, 87, 128, 129, 130, 89, 131, 132, 133, 54, 134, 135, 136, 137, 58, 56, 57, 63, 64, 138, 139, 140, 141, 142, 143, 144, 145, 158, 159, 160, 161, 162, 163, 164, 165, 166, 167, 180, 181, 182, 168, 169, 170, 171, 172, 173, 174, 175, 176, 177, 178, 179] (by decide +kernel) (by decide +kernel)
set_option maxRecDepth 20000 in
theorem gX5_gainOf_X2_copyFrom : GoodIn wsX5_gainOf (wsV RX5 172 RX2 yX2_copyFrom wsX2_copyFrom) := goodIn_app (goodIn_of _ (by decide +kernel)) ggX5_gainOf_X2_copyFrom
theorem dX5_gainOf_0 : decode cX5_gainOf 0 = .ok (.aload_n 0, 1) := by decide +kernel
theorem dX5_gainOf_1 : decode cX5_gainOf 1 = .ok (.getfield 30, 3) := by decide +kernel
theorem dX5_gainOf_4 : decode cX5_gainOf 4 = .ok (.aload_n 0, 1) := by decide +kernel
theorem dX5_gainOf_5 : decode cX5_gainOf 5 = .ok (.getfield 10, 3) := by decide +kernel
theorem dX5_gainOf_8 : decode cX5_gainOf 8 = .ok (.invokevirtual 151, 3) := by decide +kernel
theorem dX5_gainOf_11 : decode cX5_gainOf 11 = .ok (.aload_n 0, 1) := by decide +kernel
theorem dX5_gainOf_12 : decode cX5_gainOf 12 = .ok (.getfield 30, 3) := by decide +kernel
theorem dX5_gainOf_15 : decode cX5_gainOf 15 = .ok (.getfield 155, 3) := by decide +kernel
theorem dX5_gainOf_18 : decode cX5_gainOf 18 = .ok (.iload_n 1, 1) := by decide +kernel
theorem dX5_gainOf_19 : decode cX5_gainOf 19 = .ok (.iaload, 1) := by decide +kernel
theorem dX5_gainOf_20 : decode cX5_gainOf 20 = .ok (.istore_n 3, 1) := by decide +kernel
theorem dX5_gainOf_21 : decode cX5_gainOf 21 = .ok (.aload_n 0, 1) := by decide +kernel
theorem dX5_gainOf_22 : decode cX5_gainOf 22 = .ok (.getfield 16, 3) := by decide +kernel
theorem dX5_gainOf_25 : decode cX5_gainOf 25 = .ok (.aload_n 0, 1) := by decide +kernel
theorem dX5_gainOf_26 : decode cX5_gainOf 26 = .ok (.getfield 10, 3) := by decide +kernel
theorem dX5_gainOf_29 : decode cX5_gainOf 29 = .ok (.invokevirtual 172, 3) := by decide +kernel
theorem dX5_gainOf_32 : decode cX5_gainOf 32 = .ok (.aload_n 0, 1) := by decide +kernel
theorem dX5_gainOf_33 : decode cX5_gainOf 33 = .ok (.getfield 16, 3) := by decide +kernel
theorem dX5_gainOf_36 : decode cX5_gainOf 36 = .ok (.getfield 92, 3) := by decide +kernel
theorem dX5_gainOf_39 : decode cX5_gainOf 39 = .ok (.iload_n 2, 1) := by decide +kernel
theorem dX5_gainOf_40 : decode cX5_gainOf 40 = .ok (.aaload, 1) := by decide +kernel
theorem dX5_gainOf_41 : decode cX5_gainOf 41 = .ok (.iconst 1, 1) := by decide +kernel
theorem dX5_gainOf_42 : decode cX5_gainOf 42 = .ok (.putfield 203, 3) := by decide +kernel
theorem dX5_gainOf_45 : decode cX5_gainOf 45 = .ok (.aload_n 0, 1) := by decide +kernel
theorem dX5_gainOf_46 : decode cX5_gainOf 46 = .ok (.getfield 30, 3) := by decide +kernel
theorem dX5_gainOf_49 : decode cX5_gainOf 49 = .ok (.aload_n 0, 1) := by decide +kernel
theorem dX5_gainOf_50 : decode cX5_gainOf 50 = .ok (.getfield 16, 3) := by decide +kernel
theorem dX5_gainOf_53 : decode cX5_gainOf 53 = .ok (.invokevirtual 151, 3) := by decide +kernel
theorem dX5_gainOf_56 : decode cX5_gainOf 56 = .ok (.aload_n 0, 1) := by decide +kernel
theorem dX5_gainOf_57 : decode cX5_gainOf 57 = .ok (.getfield 30, 3) := by decide +kernel
theorem dX5_gainOf_60 : decode cX5_gainOf 60 = .ok (.getfield 155, 3) := by decide +kernel
theorem dX5_gainOf_63 : decode cX5_gainOf 63 = .ok (.iload_n 1, 1) := by decide +kernel
theorem dX5_gainOf_64 : decode cX5_gainOf 64 = .ok (.iaload, 1) := by decide +kernel
theorem dX5_gainOf_65 : decode cX5_gainOf 65 = .ok (.iload_n 3, 1) := by decide +kernel
theorem dX5_gainOf_66 : decode cX5_gainOf 66 = .ok (.isub, 1) := by decide +kernel
theorem dX5_gainOf_67 : decode cX5_gainOf 67 = .ok (.ireturn, 1) := by decide +kernel
set_option maxRecDepth 20000 in
theorem ggX5_judge_X1_distribute : GoodIn wsX5_judge wsX1_distribute := goodIn_r _ [9, 10, 11, 12, 13, 14, 15, 16, 17, 18, 19, 20, 21, 22, 23, 24, 25, 26, 27, 28, 29, 30, 31, 32, 33, 34, 35, 36, 37, 38, 39, 40, 41, 42, 43, 44, 45, 46, 47, 48, 49, 50, 51, 52, 53, 54, 55, 56, 57, 58, 59, 60, 61, 62, 63, 64, 65, 8, 66, 67, 68, 69, 70, 71, 72, 73, 74, 75, 76, 77, 78, 79, 80, 81, 82, 83, 84, 85, 86, 87, 88, 89, 90, 91, 92, 93, 94, 95, 96, 97, 98, 99, 100, 101, 102, 103, 104, 105, 106, 107, 108, 109, 110, 162, 163, 164, 165, 166, 167, 168, 169, 170, 171, 172, 173, 174, 175, 176, 177, 178, 179, 180, 181, 182, 183, 184, 185, 186, 187, 188, 189, 190, 191, 192] (by decide +kernel) (by decide +kernel)
set_option maxRecDepth 20000 in
theorem gX5_judge_X1_distribute : GoodIn wsX5_judge (wsV RX5 151 RX1 yX1_distribute wsX1_distribute) := goodIn_app (goodIn_of _ (by decide +kernel)) ggX5_judge_X1_distribute
set_option maxRecDepth 20000 in
theorem ggX5_judge_X1_isContent : GoodIn wsX5_judge wsX1_isContent := goodIn_r _ [114, 13, 12, 162, 163, 164, 165, 166, 167] (by decide +kernel) (by decide +kernel)
set_option maxRecDepth 20000 in
theorem gX5_judge_X1_isContent : GoodIn wsX5_judge (wsV RX5 165 RX1 yX1_isContent wsX1_isContent) := goodIn_app (goodIn_of _ (by decide +kernel)) ggX5_judge_X1_isContent
set_option maxRecDepth 20000 in
theorem ggX5_judge_X5_gainOf : GoodIn wsX5_judge wsX5_gainOf := goodIn_r _ [119, 1, 2, 3, 120, 121, 122, 5, 6, 7, 8, 9, 10, 11, 12, 13, 14, 15, 16, 17, 18, 19, 20, 21, 22, 23, 24, 25, 26, 27, 28, 29, 30, 31, 32, 33, 34, 35, 36, 37, 38, 39, 40, 41, 42, 43, 44, 45, 46, 47, 48, 49, 50, 51, 52, 53, 54, 55, 56, 57, 58, 59, 60, 61, 62, 63, 64, 65, 66, 67, 68, 69, 70, 71, 72, 73, 74, 75, 76, 77, 78, 79, 80, 81, 82, 83, 84, 85, 86, 87, 88, 89, 90, 91, 92, 93, 94, 95, 96, 97, 98, 99, 100, 101, 102, 103, 104, 105, 106, 107, 108, 109, 110, 123, 124, 125, 126, 127, 128, 129, 130, 131, 132, 133, 134, 135, 136, 137, 138, 139, 140, 141, 142, 143, 144, 145, 146, 147, 148, 149, 150, 151, 152, 153, 154, 155, 156, 157, 158, 159, 160, 161, 162, 163, 164, 165, 166, 167, 168, 169, 170, 171, 172, 173, 174, 175, 176, 177, 178, 179, 180, 181, 182, 183, 184, 185, 186, 187, 188, 189, 190, 191, 192] (by decide +kernel) (by decide +kernel)
set_option maxRecDepth 20000 in
theorem gX5_judge_X5_gainOf : GoodIn wsX5_judge (wsV RX5 197 RX5 yX5_gainOf wsX5_gainOf) := goodIn_app (goodIn_of _ (by decide +kernel)) ggX5_judge_X5_gainOf
