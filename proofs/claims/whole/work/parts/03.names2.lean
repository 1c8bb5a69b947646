theorem dX6_now_70 : decode cX6_now 70 = .ok (.iaload, 1) := by decide +kernel
theorem dX6_now_71 : decode cX6_now 71 = .ok (.ireturn, 1) := by decide +kernel
theorem dX6_now_72 : decode cX6_now 72 = .ok (.aload_n 0, 1) := by decide +kernel
theorem dX6_now_73 : decode cX6_now 73 = .ok (.getfield 16, 3) := by decide +kernel
theorem dX6_now_76 : decode cX6_now 76 = .ok (.getfield 76, 3) := by decide +kernel
theorem dX6_now_79 : decode cX6_now 79 = .ok (.iconst 2, 1) := by decide +kernel
theorem dX6_now_80 : decode cX6_now 80 = .ok (.iaload, 1) := by decide +kernel
theorem dX6_now_81 : decode cX6_now 81 = .ok (.ireturn, 1) := by decide +kernel
theorem dX6_now_82 : decode cX6_now 82 = .ok (.aload_n 0, 1) := by decide +kernel
theorem dX6_now_83 : decode cX6_now 83 = .ok (.getfield 16, 3) := by decide +kernel
theorem dX6_now_86 : decode cX6_now 86 = .ok (.getfield 133, 3) := by decide +kernel
theorem dX6_now_89 : decode cX6_now 89 = .ok (.invokestatic 129, 3) := by decide +kernel
theorem dX6_now_92 : decode cX6_now 92 = .ok (.ireturn, 1) := by decide +kernel
theorem dX6_now_93 : decode cX6_now 93 = .ok (.aload_n 0, 1) := by decide +kernel
theorem dX6_now_94 : decode cX6_now 94 = .ok (.getfield 16, 3) := by decide +kernel
theorem dX6_now_97 : decode cX6_now 97 = .ok (.getfield 126, 3) := by decide +kernel
theorem dX6_now_100 : decode cX6_now 100 = .ok (.invokestatic 129, 3) := by decide +kernel
theorem dX6_now_103 : decode cX6_now 103 = .ok (.ireturn, 1) := by decide +kernel
theorem dX6_now_104 : decode cX6_now 104 = .ok (.aload_n 0, 1) := by decide +kernel
theorem dX6_now_105 : decode cX6_now 105 = .ok (.getfield 16, 3) := by decide +kernel
theorem dX6_now_108 : decode cX6_now 108 = .ok (.getfield 136, 3) := by decide +kernel
theorem dX6_now_111 : decode cX6_now 111 = .ok (.invokestatic 129, 3) := by decide +kernel
theorem dX6_now_114 : decode cX6_now 114 = .ok (.ireturn, 1) := by decide +kernel
theorem dX6_now_115 : decode cX6_now 115 = .ok (.aload_n 0, 1) := by decide +kernel
theorem dX6_now_116 : decode cX6_now 116 = .ok (.iconst 0, 1) := by decide +kernel
theorem dX6_now_117 : decode cX6_now 117 = .ok (.invokevirtual 59, 3) := by decide +kernel
theorem dX6_now_120 : decode cX6_now 120 = .ok (.ireturn, 1) := by decide +kernel
set_option maxRecDepth 20000 in
theorem ggX6_on_X6_isFarm : GoodIn wsX6_on wsX6_isFarm := goodIn_r _ [6, 7, 8, 5, 9] rfl (by decide +kernel)
set_option maxRecDepth 20000 in
theorem gX6_on_X6_isFarm : GoodIn wsX6_on (va_wsS RX6 51 yX6_isFarm wsX6_isFarm) := goodIn_app (goodIn_of _ (by decide +kernel)) ggX6_on_X6_isFarm
set_option maxRecDepth 20000 in
theorem ggX6_on_X6_isWithin : GoodIn wsX6_on wsX6_isWithin := goodIn_r _ [9] rfl (by decide +kernel)
set_option maxRecDepth 20000 in
theorem gX6_on_X6_isWithin : GoodIn wsX6_on (va_wsS RX6 55 yX6_isWithin wsX6_isWithin) := goodIn_app (goodIn_of _ (by decide +kernel)) ggX6_on_X6_isWithin
set_option maxRecDepth 20000 in
theorem ggX6_on_X6_finding : GoodIn wsX6_on wsX6_finding := goodIn_r _ [13, 14, 15, 80, 81, 82, 83, 84, 85, 86, 87] rfl (by decide +kernel)
set_option maxRecDepth 20000 in
theorem gX6_on_X6_finding : GoodIn wsX6_on (wsV RX6 59 RX6 yX6_finding wsX6_finding) := goodIn_app (goodIn_of _ (by decide +kernel)) ggX6_on_X6_finding
set_option maxRecDepth 20000 in
theorem ggX6_on_X1_become : GoodIn wsX6_on wsX1_become := goodIn_r _ [20, 21, 22, 23, 24, 25, 26, 27, 28, 29, 30, 31, 32, 33, 34, 35, 36, 88, 89, 90, 91, 92, 93, 94, 95, 96, 97, 98, 99] rfl (by decide +kernel)
set_option maxRecDepth 20000 in
theorem gX6_on_X1_become : GoodIn wsX6_on (wsV RX6 139 RX1 yX1_become wsX1_become) := goodIn_app (goodIn_of _ (by decide +kernel)) ggX6_on_X1_become
set_option maxRecDepth 20000 in
theorem ggX6_on_X1_passDay : GoodIn wsX6_on wsX1_passDay := goodIn_r _ [40, 28, 31, 32, 36, 34, 29, 41, 42, 43, 44, 30, 45, 46, 47, 19, 48, 49, 50, 51, 52, 33, 35, 26, 53, 54, 55, 56, 57, 58, 59, 60, 61, 62, 63, 64, 65, 66, 67, 68, 69, 70, 71, 72, 73, 74, 75, 21, 27, 88, 89, 90, 91, 92, 93, 94, 95, 96, 97, 98, 99] rfl (by decide +kernel)
set_option maxRecDepth 20000 in
theorem gX6_on_X1_passDay : GoodIn wsX6_on (wsV RX6 123 RX1 yX1_passDay wsX1_passDay) := goodIn_app (goodIn_of _ (by decide +kernel)) ggX6_on_X1_passDay
set_option maxRecDepth 20000 in
theorem ggX6_on_X1_rowOfFarms : GoodIn wsX6_on wsX1_rowOfFarms := goodIn_r _ [79, 21, 26, 27, 28, 88, 89, 90, 91, 92, 93, 94, 95, 96, 97, 98, 99] rfl (by decide +kernel)
set_option maxRecDepth 20000 in
theorem gX6_on_X1_rowOfFarms : GoodIn wsX6_on (wsV RX6 69 RX1 yX1_rowOfFarms wsX1_rowOfFarms) := goodIn_app (goodIn_of _ (by decide +kernel)) ggX6_on_X1_rowOfFarms
theorem dX6_on_0 : decode cX6_on 0 = .ok (.iload_n 1, 1) := by decide +kernel
theorem dX6_on_1 : decode cX6_on 1 = .ok (.invokestatic 51, 3) := by decide +kernel
theorem dX6_on_4 : decode cX6_on 4 = .ok (.ifCond .eq 22, 3) := by decide +kernel
theorem dX6_on_7 : decode cX6_on 7 = .ok (.iload_n 2, 1) := by decide +kernel
theorem dX6_on_8 : decode cX6_on 8 = .ok (.iconst 0, 1) := by decide +kernel
theorem dX6_on_9 : decode cX6_on 9 = .ok (.bipush 60, 2) := by decide +kernel
theorem dX6_on_11 : decode cX6_on 11 = .ok (.invokestatic 55, 3) := by decide +kernel
theorem dX6_on_14 : decode cX6_on 14 = .ok (.ifCond .eq 12, 3) := by decide +kernel
theorem dX6_on_17 : decode cX6_on 17 = .ok (.iload_n 3, 1) := by decide +kernel
theorem dX6_on_18 : decode cX6_on 18 = .ok (.iconst 1, 1) := by decide +kernel
theorem dX6_on_19 : decode cX6_on 19 = .ok (.iconst 2, 1) := by decide +kernel
theorem dX6_on_20 : decode cX6_on 20 = .ok (.invokestatic 55, 3) := by decide +kernel
theorem dX6_on_23 : decode cX6_on 23 = .ok (.ifCond .ne 9, 3) := by decide +kernel
theorem dX6_on_26 : decode cX6_on 26 = .ok (.aload_n 0, 1) := by decide +kernel
theorem dX6_on_27 : decode cX6_on 27 = .ok (.iconst 0, 1) := by decide +kernel
theorem dX6_on_28 : decode cX6_on 28 = .ok (.invokevirtual 59, 3) := by decide +kernel
theorem dX6_on_31 : decode cX6_on 31 = .ok (.ireturn, 1) := by decide +kernel
theorem dX6_on_32 : decode cX6_on 32 = .ok (.aload_n 0, 1) := by decide +kernel
theorem dX6_on_33 : decode cX6_on 33 = .ok (.getfield 20, 3) := by decide +kernel
theorem dX6_on_36 : decode cX6_on 36 = .ok (.aload_n 0, 1) := by decide +kernel
theorem dX6_on_37 : decode cX6_on 37 = .ok (.getfield 16, 3) := by decide +kernel
theorem dX6_on_40 : decode cX6_on 40 = .ok (.invokevirtual 139, 3) := by decide +kernel
theorem dX6_on_43 : decode cX6_on 43 = .ok (.iconst 0, 1) := by decide +kernel
theorem dX6_on_44 : decode cX6_on 44 = .ok (.istore 4, 2) := by decide +kernel
theorem dX6_on_46 : decode cX6_on 46 = .ok (.iload 4, 2) := by decide +kernel
theorem dX6_on_48 : decode cX6_on 48 = .ok (.iload_n 2, 1) := by decide +kernel
theorem dX6_on_49 : decode cX6_on 49 = .ok (.if_icmp .ge 16, 3) := by decide +kernel
theorem dX6_on_52 : decode cX6_on 52 = .ok (.aload_n 0, 1) := by decide +kernel
theorem dX6_on_53 : decode cX6_on 53 = .ok (.getfield 20, 3) := by decide +kernel
theorem dX6_on_56 : decode cX6_on 56 = .ok (.invokevirtual 123, 3) := by decide +kernel
theorem dX6_on_59 : decode cX6_on 59 = .ok (.iinc 4 1, 3) := by decide +kernel
theorem dX6_on_62 : decode cX6_on 62 = .ok (.goto (-16), 3) := by decide +kernel
theorem dX6_on_65 : decode cX6_on 65 = .ok (.aload_n 0, 1) := by decide +kernel
theorem dX6_on_66 : decode cX6_on 66 = .ok (.getfield 20, 3) := by decide +kernel
theorem dX6_on_69 : decode cX6_on 69 = .ok (.iload_n 3, 1) := by decide +kernel
theorem dX6_on_70 : decode cX6_on 70 = .ok (.invokevirtual 69, 3) := by decide +kernel
theorem dX6_on_73 : decode cX6_on 73 = .ok (.iload_n 1, 1) := by decide +kernel
theorem dX6_on_74 : decode cX6_on 74 = .ok (.iaload, 1) := by decide +kernel
theorem dX6_on_75 : decode cX6_on 75 = .ok (.ireturn, 1) := by decide +kernel
set_option maxRecDepth 20000 in
theorem ggX6_dry_X6_isFarm : GoodIn wsX6_dry wsX6_isFarm := goodIn_r _ [6, 7, 8, 5, 9] rfl (by decide +kernel)
set_option maxRecDepth 20000 in
theorem gX6_dry_X6_isFarm : GoodIn wsX6_dry (va_wsS RX6 51 yX6_isFarm wsX6_isFarm) := goodIn_app (goodIn_of _ (by decide +kernel)) ggX6_dry_X6_isFarm
set_option maxRecDepth 20000 in
theorem ggX6_dry_X6_finding : GoodIn wsX6_dry wsX6_finding := goodIn_r _ [13, 14, 15, 80, 81, 82, 83, 84, 85, 86, 87] rfl (by decide +kernel)
set_option maxRecDepth 20000 in
theorem gX6_dry_X6_finding : GoodIn wsX6_dry (wsV RX6 59 RX6 yX6_finding wsX6_finding) := goodIn_app (goodIn_of _ (by decide +kernel)) ggX6_dry_X6_finding
set_option maxRecDepth 20000 in
theorem ggX6_dry_X1_become : GoodIn wsX6_dry wsX1_become := goodIn_r _ [20, 21, 22, 23, 24, 25, 26, 27, 28, 29, 30, 31, 32, 33, 34, 35, 36, 88, 89, 90, 91, 92, 93, 94, 95, 96, 97, 98, 99] rfl (by decide +kernel)
set_option maxRecDepth 20000 in
theorem gX6_dry_X1_become : GoodIn wsX6_dry (wsV RX6 139 RX1 yX1_become wsX1_become) := goodIn_app (goodIn_of _ (by decide +kernel)) ggX6_dry_X1_become
set_option maxRecDepth 20000 in
theorem ggX6_dry_X1_passDay : GoodIn wsX6_dry wsX1_passDay := goodIn_r _ [40, 28, 31, 32, 36, 34, 29, 41, 42, 43, 44, 30, 45, 46, 47, 19, 48, 49, 50, 51, 52, 33, 35, 26, 53, 54, 55, 56, 57, 58, 59, 60, 61, 62, 63, 64, 65, 66, 67, 68, 69, 70, 71, 72, 73, 74, 75, 21, 27, 88, 89, 90, 91, 92, 93, 94, 95, 96, 97, 98, 99] rfl (by decide +kernel)
set_option maxRecDepth 20000 in
theorem gX6_dry_X1_passDay : GoodIn wsX6_dry (wsV RX6 123 RX1 yX1_passDay wsX1_passDay) := goodIn_app (goodIn_of _ (by decide +kernel)) ggX6_dry_X1_passDay
set_option maxRecDepth 20000 in
theorem ggX6_dry_X1_wasDry : GoodIn wsX6_dry wsX1_wasDry := goodIn_r _ [79, 31, 88, 89, 90, 91, 92, 93, 94, 95, 96, 97, 98, 99] rfl (by decide +kernel)
set_option maxRecDepth 20000 in
theorem gX6_dry_X1_wasDry : GoodIn wsX6_dry (wsV RX6 143 RX1 yX1_wasDry wsX1_wasDry) := goodIn_app (goodIn_of _ (by decide +kernel)) ggX6_dry_X1_wasDry
theorem dX6_dry_0 : decode cX6_dry 0 = .ok (.iload_n 1, 1) := by decide +kernel
theorem dX6_dry_1 : decode cX6_dry 1 = .ok (.invokestatic 51, 3) := by decide +kernel
theorem dX6_dry_4 : decode cX6_dry 4 = .ok (.ifCond .ne 9, 3) := by decide +kernel
theorem dX6_dry_7 : decode cX6_dry 7 = .ok (.aload_n 0, 1) := by decide +kernel
theorem dX6_dry_8 : decode cX6_dry 8 = .ok (.iconst 0, 1) := by decide +kernel
theorem dX6_dry_9 : decode cX6_dry 9 = .ok (.invokevirtual 59, 3) := by decide +kernel
theorem dX6_dry_12 : decode cX6_dry 12 = .ok (.ireturn, 1) := by decide +kernel
theorem dX6_dry_13 : decode cX6_dry 13 = .ok (.aload_n 0, 1) := by decide +kernel
theorem dX6_dry_14 : decode cX6_dry 14 = .ok (.getfield 20, 3) := by decide +kernel
theorem dX6_dry_17 : decode cX6_dry 17 = .ok (.aload_n 0, 1) := by decide +kernel
theorem dX6_dry_18 : decode cX6_dry 18 = .ok (.getfield 16, 3) := by decide +kernel
theorem dX6_dry_21 : decode cX6_dry 21 = .ok (.invokevirtual 139, 3) := by decide +kernel
theorem dX6_dry_24 : decode cX6_dry 24 = .ok (.iconst 1, 1) := by decide +kernel
theorem dX6_dry_25 : decode cX6_dry 25 = .ok (.istore_n 2, 1) := by decide +kernel
theorem dX6_dry_26 : decode cX6_dry 26 = .ok (.iload_n 2, 1) := by decide +kernel
theorem dX6_dry_27 : decode cX6_dry 27 = .ok (.bipush 60, 2) := by decide +kernel
theorem dX6_dry_29 : decode cX6_dry 29 = .ok (.if_icmp .gt 29, 3) := by decide +kernel
theorem dX6_dry_32 : decode cX6_dry 32 = .ok (.aload_n 0, 1) := by decide +kernel
theorem dX6_dry_33 : decode cX6_dry 33 = .ok (.getfield 20, 3) := by decide +kernel
theorem dX6_dry_36 : decode cX6_dry 36 = .ok (.invokevirtual 123, 3) := by decide +kernel
theorem dX6_dry_39 : decode cX6_dry 39 = .ok (.aload_n 0, 1) := by decide +kernel
theorem dX6_dry_40 : decode cX6_dry 40 = .ok (.getfield 20, 3) := by decide +kernel
theorem dX6_dry_43 : decode cX6_dry 43 = .ok (.iload_n 1, 1) := by decide +kernel
theorem dX6_dry_44 : decode cX6_dry 44 = .ok (.invokevirtual 143, 3) := by decide +kernel
theorem dX6_dry_47 : decode cX6_dry 47 = .ok (.ifCond .eq 5, 3) := by decide +kernel
theorem dX6_dry_50 : decode cX6_dry 50 = .ok (.iload_n 2, 1) := by decide +kernel
theorem dX6_dry_51 : decode cX6_dry 51 = .ok (.ireturn, 1) := by decide +kernel
theorem dX6_dry_52 : decode cX6_dry 52 = .ok (.iinc 2 1, 3) := by decide +kernel
theorem dX6_dry_55 : decode cX6_dry 55 = .ok (.goto (-29), 3) := by decide +kernel
theorem dX6_dry_58 : decode cX6_dry 58 = .ok (.aload_n 0, 1) := by decide +kernel
theorem dX6_dry_59 : decode cX6_dry 59 = .ok (.iconst 3, 1) := by decide +kernel
theorem dX6_dry_60 : decode cX6_dry 60 = .ok (.invokevirtual 59, 3) := by decide +kernel
theorem dX6_dry_63 : decode cX6_dry 63 = .ok (.ireturn, 1) := by decide +kernel
set_option maxRecDepth 20000 in
theorem ggX6_favourite_X6_finding : GoodIn wsX6_favourite wsX6_finding := goodIn_r _ [7, 8, 9, 43, 44, 45, 46, 47, 48, 49, 50] rfl (by decide +kernel)
set_option maxRecDepth 20000 in
theorem gX6_favourite_X6_finding : GoodIn wsX6_favourite (wsV RX6 59 RX6 yX6_finding wsX6_finding) := goodIn_app (goodIn_of _ (by decide +kernel)) ggX6_favourite_X6_finding
set_option maxRecDepth 20000 in
theorem ggX6_favourite_X1_givenTo : GoodIn wsX6_favourite wsX1_givenTo := goodIn_r _ [14, 15, 16, 17, 18, 19, 20, 13, 21, 22, 23, 24, 25, 26, 27, 28, 29, 30, 31, 32, 33, 34, 35, 36, 37, 38, 39, 40, 41, 42, 51, 52, 53, 54, 55, 56, 57, 58, 59, 60, 61, 62] rfl (by decide +kernel)
set_option maxRecDepth 20000 in
theorem gX6_favourite_X1_givenTo : GoodIn wsX6_favourite (wsV RX6 97 RX1 yX1_givenTo wsX1_givenTo) := goodIn_app (goodIn_of _ (by decide +kernel)) ggX6_favourite_X1_givenTo
theorem dX6_favourite_0 : decode cX6_favourite 0 = .ok (.aload_n 0, 1) := by decide +kernel
theorem dX6_favourite_1 : decode cX6_favourite 1 = .ok (.getfield 16, 3) := by decide +kernel
theorem dX6_favourite_4 : decode cX6_favourite 4 = .ok (.getfield 84, 3) := by decide +kernel
theorem dX6_favourite_7 : decode cX6_favourite 7 = .ok (.ifCond .ne 9, 3) := by decide +kernel
theorem dX6_favourite_10 : decode cX6_favourite 10 = .ok (.aload_n 0, 1) := by decide +kernel
theorem dX6_favourite_11 : decode cX6_favourite 11 = .ok (.iconst 3, 1) := by decide +kernel
theorem dX6_favourite_12 : decode cX6_favourite 12 = .ok (.invokevirtual 59, 3) := by decide +kernel
theorem dX6_favourite_15 : decode cX6_favourite 15 = .ok (.ireturn, 1) := by decide +kernel
theorem dX6_favourite_16 : decode cX6_favourite 16 = .ok (.iconst 0, 1) := by decide +kernel
theorem dX6_favourite_17 : decode cX6_favourite 17 = .ok (.istore_n 1, 1) := by decide +kernel
theorem dX6_favourite_18 : decode cX6_favourite 18 = .ok (.iconst 1, 1) := by decide +kernel
theorem dX6_favourite_19 : decode cX6_favourite 19 = .ok (.istore_n 2, 1) := by decide +kernel
theorem dX6_favourite_20 : decode cX6_favourite 20 = .ok (.iload_n 2, 1) := by decide +kernel
theorem dX6_favourite_21 : decode cX6_favourite 21 = .ok (.aload_n 0, 1) := by decide +kernel
theorem dX6_favourite_22 : decode cX6_favourite 22 = .ok (.getfield 16, 3) := by decide +kernel
theorem dX6_favourite_25 : decode cX6_favourite 25 = .ok (.getfield 84, 3) := by decide +kernel
theorem dX6_favourite_28 : decode cX6_favourite 28 = .ok (.if_icmp .ge 30, 3) := by decide +kernel
theorem dX6_favourite_31 : decode cX6_favourite 31 = .ok (.aload_n 0, 1) := by decide +kernel
theorem dX6_favourite_32 : decode cX6_favourite 32 = .ok (.getfield 16, 3) := by decide +kernel
theorem dX6_favourite_35 : decode cX6_favourite 35 = .ok (.iload_n 2, 1) := by decide +kernel
theorem dX6_favourite_36 : decode cX6_favourite 36 = .ok (.invokevirtual 97, 3) := by decide +kernel
theorem dX6_favourite_39 : decode cX6_favourite 39 = .ok (.aload_n 0, 1) := by decide +kernel
theorem dX6_favourite_40 : decode cX6_favourite 40 = .ok (.getfield 16, 3) := by decide +kernel
theorem dX6_favourite_43 : decode cX6_favourite 43 = .ok (.iload_n 1, 1) := by decide +kernel
theorem dX6_favourite_44 : decode cX6_favourite 44 = .ok (.invokevirtual 97, 3) := by decide +kernel
theorem dX6_favourite_47 : decode cX6_favourite 47 = .ok (.if_icmp .le 5, 3) := by decide +kernel
theorem dX6_favourite_50 : decode cX6_favourite 50 = .ok (.iload_n 2, 1) := by decide +kernel
theorem dX6_favourite_51 : decode cX6_favourite 51 = .ok (.istore_n 1, 1) := by decide +kernel
theorem dX6_favourite_52 : decode cX6_favourite 52 = .ok (.iinc 2 1, 3) := by decide +kernel
theorem dX6_favourite_55 : decode cX6_favourite 55 = .ok (.goto (-35), 3) := by decide +kernel
theorem dX6_favourite_58 : decode cX6_favourite 58 = .ok (.iload_n 1, 1) := by decide +kernel
theorem dX6_favourite_59 : decode cX6_favourite 59 = .ok (.ireturn, 1) := by decide +kernel
set_option maxRecDepth 20000 in
theorem ggX6_send_X6_isFarm : GoodIn wsX6_send wsX6_isFarm := goodIn_r _ [9, 10, 11, 8, 12] rfl (by decide +kernel)
set_option maxRecDepth 20000 in
theorem gX6_send_X6_isFarm : GoodIn wsX6_send (va_wsS RX6 51 yX6_isFarm wsX6_isFarm) := goodIn_app (goodIn_of _ (by decide +kernel)) ggX6_send_X6_isFarm
set_option maxRecDepth 20000 in
theorem ggX6_send_X6_isWithin : GoodIn wsX6_send wsX6_isWithin := goodIn_r _ [12] rfl (by decide +kernel)
set_option maxRecDepth 20000 in
theorem gX6_send_X6_isWithin : GoodIn wsX6_send (va_wsS RX6 55 yX6_isWithin wsX6_isWithin) := goodIn_app (goodIn_of _ (by decide +kernel)) ggX6_send_X6_isWithin
set_option maxRecDepth 20000 in
theorem ggX6_send_X6_finding : GoodIn wsX6_send wsX6_finding := goodIn_r _ [16, 17, 18, 87, 88, 89, 90, 91, 92, 93, 94] rfl (by decide +kernel)
set_option maxRecDepth 20000 in
theorem gX6_send_X6_finding : GoodIn wsX6_send (wsV RX6 59 RX6 yX6_finding wsX6_finding) := goodIn_app (goodIn_of _ (by decide +kernel)) ggX6_send_X6_finding
set_option maxRecDepth 20000 in
theorem ggX6_send_X1_become : GoodIn wsX6_send wsX1_become := goodIn_r _ [23, 24, 25, 26, 27, 28, 29, 30, 31, 32, 33, 34, 35, 36, 37, 38, 39, 95, 96, 97, 98, 99, 100, 101, 102, 103, 104, 105, 106] rfl (by decide +kernel)
set_option maxRecDepth 20000 in
theorem gX6_send_X1_become : GoodIn wsX6_send (wsV RX6 139 RX1 yX1_become wsX1_become) := goodIn_app (goodIn_of _ (by decide +kernel)) ggX6_send_X1_become
set_option maxRecDepth 20000 in
theorem ggX6_send_X6_dryOfTrial : GoodIn wsX6_send wsX6_dryOfTrial := goodIn_r _ [43, 1, 44, 4, 45, 46, 22, 47, 48, 49, 50, 51, 31, 34, 35, 39, 37, 32, 52, 53, 54, 55, 33, 56, 57, 58, 59, 60, 61, 62, 63, 36, 38, 29, 64, 65, 66, 67, 68, 69, 70, 71, 72, 73, 74, 75, 76, 77, 78, 79, 80, 81, 82, 83, 84, 85, 86, 24, 30, 87, 88, 89, 90, 91, 92, 93, 94, 95, 96, 97, 98, 99, 100, 101, 102, 103, 104, 105, 106] rfl (by decide +kernel)
set_option maxRecDepth 20000 in
theorem gX6_send_X6_dryOfTrial : GoodIn wsX6_send (wsV RX6 150 RX6 yX6_dryOfTrial wsX6_dryOfTrial) := goodIn_app (goodIn_of _ (by decide +kernel)) ggX6_send_X6_dryOfTrial
theorem dX6_send_0 : decode cX6_send 0 = .ok (.iload_n 1, 1) := by decide +kernel
theorem dX6_send_1 : decode cX6_send 1 = .ok (.invokestatic 51, 3) := by decide +kernel
theorem dX6_send_4 : decode cX6_send 4 = .ok (.ifCond .eq 13, 3) := by decide +kernel
theorem dX6_send_7 : decode cX6_send 7 = .ok (.iload_n 2, 1) := by decide +kernel
theorem dX6_send_8 : decode cX6_send 8 = .ok (.iconst 1, 1) := by decide +kernel
theorem dX6_send_9 : decode cX6_send 9 = .ok (.bipush 20, 2) := by decide +kernel
theorem dX6_send_11 : decode cX6_send 11 = .ok (.invokestatic 55, 3) := by decide +kernel
theorem dX6_send_14 : decode cX6_send 14 = .ok (.ifCond .ne 9, 3) := by decide +kernel
theorem dX6_send_17 : decode cX6_send 17 = .ok (.aload_n 0, 1) := by decide +kernel
theorem dX6_send_18 : decode cX6_send 18 = .ok (.iconst 0, 1) := by decide +kernel
theorem dX6_send_19 : decode cX6_send 19 = .ok (.invokevirtual 59, 3) := by decide +kernel
theorem dX6_send_22 : decode cX6_send 22 = .ok (.ireturn, 1) := by decide +kernel
theorem dX6_send_23 : decode cX6_send 23 = .ok (.aload_n 0, 1) := by decide +kernel
theorem dX6_send_24 : decode cX6_send 24 = .ok (.getfield 16, 3) := by decide +kernel
theorem dX6_send_27 : decode cX6_send 27 = .ok (.getfield 84, 3) := by decide +kernel
theorem dX6_send_30 : decode cX6_send 30 = .ok (.ifCond .ne 9, 3) := by decide +kernel
theorem dX6_send_33 : decode cX6_send 33 = .ok (.aload_n 0, 1) := by decide +kernel
theorem dX6_send_34 : decode cX6_send 34 = .ok (.iconst 3, 1) := by decide +kernel
theorem dX6_send_35 : decode cX6_send 35 = .ok (.invokevirtual 59, 3) := by decide +kernel
theorem dX6_send_38 : decode cX6_send 38 = .ok (.ireturn, 1) := by decide +kernel
theorem dX6_send_39 : decode cX6_send 39 = .ok (.iconst 0, 1) := by decide +kernel
theorem dX6_send_40 : decode cX6_send 40 = .ok (.istore_n 3, 1) := by decide +kernel
theorem dX6_send_41 : decode cX6_send 41 = .ok (.ldc 146, 2) := by decide +kernel
theorem dX6_send_43 : decode cX6_send 43 = .ok (.istore 4, 2) := by decide +kernel
theorem dX6_send_45 : decode cX6_send 45 = .ok (.iconst 0, 1) := by decide +kernel
theorem dX6_send_46 : decode cX6_send 46 = .ok (.istore 5, 2) := by decide +kernel
theorem dX6_send_48 : decode cX6_send 48 = .ok (.iload 5, 2) := by decide +kernel
theorem dX6_send_50 : decode cX6_send 50 = .ok (.aload_n 0, 1) := by decide +kernel
theorem dX6_send_51 : decode cX6_send 51 = .ok (.getfield 16, 3) := by decide +kernel
theorem dX6_send_54 : decode cX6_send 54 = .ok (.getfield 84, 3) := by decide +kernel
theorem dX6_send_57 : decode cX6_send 57 = .ok (.if_icmp .ge 54, 3) := by decide +kernel
theorem dX6_send_60 : decode cX6_send 60 = .ok (.aload_n 0, 1) := by decide +kernel
theorem dX6_send_61 : decode cX6_send 61 = .ok (.getfield 20, 3) := by decide +kernel
theorem dX6_send_64 : decode cX6_send 64 = .ok (.aload_n 0, 1) := by decide +kernel
theorem dX6_send_65 : decode cX6_send 65 = .ok (.getfield 16, 3) := by decide +kernel
theorem dX6_send_68 : decode cX6_send 68 = .ok (.invokevirtual 139, 3) := by decide +kernel
theorem dX6_send_71 : decode cX6_send 71 = .ok (.aload_n 0, 1) := by decide +kernel
theorem dX6_send_72 : decode cX6_send 72 = .ok (.getfield 20, 3) := by decide +kernel
theorem dX6_send_75 : decode cX6_send 75 = .ok (.getfield 147, 3) := by decide +kernel
theorem dX6_send_78 : decode cX6_send 78 = .ok (.iload_n 1, 1) := by decide +kernel
theorem dX6_send_79 : decode cX6_send 79 = .ok (.iload 5, 2) := by decide +kernel
theorem dX6_send_81 : decode cX6_send 81 = .ok (.iastore, 1) := by decide +kernel
theorem dX6_send_82 : decode cX6_send 82 = .ok (.aload_n 0, 1) := by decide +kernel
theorem dX6_send_83 : decode cX6_send 83 = .ok (.iload_n 2, 1) := by decide +kernel
theorem dX6_send_84 : decode cX6_send 84 = .ok (.iload 4, 2) := by decide +kernel
theorem dX6_send_86 : decode cX6_send 86 = .ok (.invokevirtual 150, 3) := by decide +kernel
theorem dX6_send_89 : decode cX6_send 89 = .ok (.istore 6, 2) := by decide +kernel
theorem dX6_send_91 : decode cX6_send 91 = .ok (.iload 6, 2) := by decide +kernel
theorem dX6_send_93 : decode cX6_send 93 = .ok (.iload 4, 2) := by decide +kernel
theorem dX6_send_95 : decode cX6_send 95 = .ok (.if_icmp .ge 10, 3) := by decide +kernel
theorem dX6_send_98 : decode cX6_send 98 = .ok (.iload 6, 2) := by decide +kernel
theorem dX6_send_100 : decode cX6_send 100 = .ok (.istore 4, 2) := by decide +kernel
theorem dX6_send_102 : decode cX6_send 102 = .ok (.iload 5, 2) := by decide +kernel
theorem dX6_send_104 : decode cX6_send 104 = .ok (.istore_n 3, 1) := by decide +kernel
theorem dX6_send_105 : decode cX6_send 105 = .ok (.iinc 5 1, 3) := by decide +kernel
theorem dX6_send_108 : decode cX6_send 108 = .ok (.goto (-60), 3) := by decide +kernel
theorem dX6_send_111 : decode cX6_send 111 = .ok (.iload_n 3, 1) := by decide +kernel
theorem dX6_send_112 : decode cX6_send 112 = .ok (.ireturn, 1) := by decide +kernel
set_option maxRecDepth 20000 in
theorem ggX6_round_X6_isWithin : GoodIn wsX6_round wsX6_isWithin := goodIn_r _ [8] rfl (by decide +kernel)
set_option maxRecDepth 20000 in
theorem gX6_round_X6_isWithin : GoodIn wsX6_round (va_wsS RX6 55 yX6_isWithin wsX6_isWithin) := goodIn_app (goodIn_of _ (by decide +kernel)) ggX6_round_X6_isWithin
set_option maxRecDepth 20000 in
theorem ggX6_round_X6_finding : GoodIn wsX6_round wsX6_finding := goodIn_r _ [12, 13, 14, 97, 98, 99, 100, 101, 102, 103, 104] rfl (by decide +kernel)
set_option maxRecDepth 20000 in
theorem gX6_round_X6_finding : GoodIn wsX6_round (wsV RX6 59 RX6 yX6_finding wsX6_finding) := goodIn_app (goodIn_of _ (by decide +kernel)) ggX6_round_X6_finding
set_option maxRecDepth 20000 in
theorem ggX6_round_X1_isRound : GoodIn wsX6_round wsX1_isRound := goodIn_r _ [19, 20, 21, 18, 22, 23, 24, 25, 26, 27, 105, 106, 107, 108, 109, 110, 111, 112, 113, 114, 115, 116] rfl (by decide +kernel)
set_option maxRecDepth 20000 in
theorem gX6_round_X1_isRound : GoodIn wsX6_round (wsV RX6 153 RX1 yX1_isRound wsX1_isRound) := goodIn_app (goodIn_of _ (by decide +kernel)) ggX6_round_X1_isRound
set_option maxRecDepth 20000 in
theorem ggX6_round_X1_become : GoodIn wsX6_round wsX1_become := goodIn_r _ [31, 32, 33, 34, 35, 36, 37, 38, 39, 40, 41, 42, 27, 43, 44, 45, 46, 105, 106, 107, 108, 109, 110, 111, 112, 113, 114, 115, 116] rfl (by decide +kernel)
set_option maxRecDepth 20000 in
theorem gX6_round_X1_become : GoodIn wsX6_round (wsV RX6 139 RX1 yX1_become wsX1_become) := goodIn_app (goodIn_of _ (by decide +kernel)) ggX6_round_X1_become
set_option maxRecDepth 20000 in
theorem ggX6_round_X1_sendRound : GoodIn wsX6_round wsX1_sendRound := goodIn_r _ [50, 39, 20, 21, 18, 22, 105, 106, 107, 108, 109, 110, 111, 112, 113, 114, 115, 116] rfl (by decide +kernel)
set_option maxRecDepth 20000 in
theorem gX6_round_X1_sendRound : GoodIn wsX6_round (wsV RX6 156 RX1 yX1_sendRound wsX1_sendRound) := goodIn_app (goodIn_of _ (by decide +kernel)) ggX6_round_X1_sendRound
set_option maxRecDepth 20000 in
theorem ggX6_round_X6_dryOfTrial : GoodIn wsX6_round wsX6_dryOfTrial := goodIn_r _ [54, 1, 55, 4, 56, 57, 18, 58, 59, 60, 61, 62, 39, 42, 27, 46, 44, 40, 63, 64, 65, 66, 41, 23, 24, 25, 26, 67, 68, 69, 70, 43, 45, 37, 71, 72, 73, 74, 75, 76, 77, 78, 79, 80, 81, 82, 83, 84, 85, 86, 87, 88, 89, 90, 91, 92, 93, 32, 38, 97, 98, 99, 100, 101, 102, 103, 104, 105, 106, 107, 108, 109, 110, 111, 112, 113, 114, 115, 116] rfl (by decide +kernel)
set_option maxRecDepth 20000 in
theorem gX6_round_X6_dryOfTrial : GoodIn wsX6_round (wsV RX6 150 RX6 yX6_dryOfTrial wsX6_dryOfTrial) := goodIn_app (goodIn_of _ (by decide +kernel)) ggX6_round_X6_dryOfTrial
set_option maxRecDepth 20000 in
theorem ggX6_round_X1_roundInTens : GoodIn wsX6_round wsX1_roundInTens := goodIn_r _ [96, 20, 21, 18, 22] rfl (by decide +kernel)
set_option maxRecDepth 20000 in
theorem gX6_round_X1_roundInTens : GoodIn wsX6_round (va_wsS RX6 160 yX1_roundInTens wsX1_roundInTens) := goodIn_app (goodIn_of _ (by decide +kernel)) ggX6_round_X1_roundInTens
theorem dX6_round_0 : decode cX6_round 0 = .ok (.iload_n 1, 1) := by decide +kernel
theorem dX6_round_1 : decode cX6_round 1 = .ok (.iconst 1, 1) := by decide +kernel
theorem dX6_round_2 : decode cX6_round 2 = .ok (.bipush 7, 2) := by decide +kernel
theorem dX6_round_4 : decode cX6_round 4 = .ok (.invokestatic 55, 3) := by decide +kernel
theorem dX6_round_7 : decode cX6_round 7 = .ok (.ifCond .ne 9, 3) := by decide +kernel
theorem dX6_round_10 : decode cX6_round 10 = .ok (.aload_n 0, 1) := by decide +kernel
theorem dX6_round_11 : decode cX6_round 11 = .ok (.iconst 0, 1) := by decide +kernel
theorem dX6_round_12 : decode cX6_round 12 = .ok (.invokevirtual 59, 3) := by decide +kernel
theorem dX6_round_15 : decode cX6_round 15 = .ok (.ireturn, 1) := by decide +kernel
theorem dX6_round_16 : decode cX6_round 16 = .ok (.aload_n 0, 1) := by decide +kernel
theorem dX6_round_17 : decode cX6_round 17 = .ok (.getfield 16, 3) := by decide +kernel
theorem dX6_round_20 : decode cX6_round 20 = .ok (.getfield 84, 3) := by decide +kernel
theorem dX6_round_23 : decode cX6_round 23 = .ok (.iconst 4, 1) := by decide +kernel
theorem dX6_round_24 : decode cX6_round 24 = .ok (.if_icmp .ge 9, 3) := by decide +kernel
theorem dX6_round_27 : decode cX6_round 27 = .ok (.aload_n 0, 1) := by decide +kernel
theorem dX6_round_28 : decode cX6_round 28 = .ok (.iconst 3, 1) := by decide +kernel
theorem dX6_round_29 : decode cX6_round 29 = .ok (.invokevirtual 59, 3) := by decide +kernel
theorem dX6_round_32 : decode cX6_round 32 = .ok (.ireturn, 1) := by decide +kernel
theorem dX6_round_33 : decode cX6_round 33 = .ok (.iconst 0, 1) := by decide +kernel
theorem dX6_round_34 : decode cX6_round 34 = .ok (.istore_n 2, 1) := by decide +kernel
theorem dX6_round_35 : decode cX6_round 35 = .ok (.ldc 146, 2) := by decide +kernel
theorem dX6_round_37 : decode cX6_round 37 = .ok (.istore_n 3, 1) := by decide +kernel
theorem dX6_round_38 : decode cX6_round 38 = .ok (.iconst 0, 1) := by decide +kernel
theorem dX6_round_39 : decode cX6_round 39 = .ok (.istore 4, 2) := by decide +kernel
theorem dX6_round_41 : decode cX6_round 41 = .ok (.iload 4, 2) := by decide +kernel
theorem dX6_round_43 : decode cX6_round 43 = .ok (.sipush 4096, 3) := by decide +kernel
theorem dX6_round_46 : decode cX6_round 46 = .ok (.if_icmp .ge 65, 3) := by decide +kernel
theorem dX6_round_49 : decode cX6_round 49 = .ok (.iload_n 3, 1) := by decide +kernel
theorem dX6_round_50 : decode cX6_round 50 = .ok (.ifCond .le 61, 3) := by decide +kernel
theorem dX6_round_53 : decode cX6_round 53 = .ok (.aload_n 0, 1) := by decide +kernel
theorem dX6_round_54 : decode cX6_round 54 = .ok (.getfield 16, 3) := by decide +kernel
theorem dX6_round_57 : decode cX6_round 57 = .ok (.iload 4, 2) := by decide +kernel
theorem dX6_round_59 : decode cX6_round 59 = .ok (.invokevirtual 153, 3) := by decide +kernel
theorem dX6_round_62 : decode cX6_round 62 = .ok (.ifCond .eq 43, 3) := by decide +kernel
theorem dX6_round_65 : decode cX6_round 65 = .ok (.aload_n 0, 1) := by decide +kernel
theorem dX6_round_66 : decode cX6_round 66 = .ok (.getfield 20, 3) := by decide +kernel
theorem dX6_round_69 : decode cX6_round 69 = .ok (.aload_n 0, 1) := by decide +kernel
theorem dX6_round_70 : decode cX6_round 70 = .ok (.getfield 16, 3) := by decide +kernel
theorem dX6_round_73 : decode cX6_round 73 = .ok (.invokevirtual 139, 3) := by decide +kernel
theorem dX6_round_76 : decode cX6_round 76 = .ok (.aload_n 0, 1) := by decide +kernel
theorem dX6_round_77 : decode cX6_round 77 = .ok (.getfield 20, 3) := by decide +kernel
theorem dX6_round_80 : decode cX6_round 80 = .ok (.iload 4, 2) := by decide +kernel
theorem dX6_round_82 : decode cX6_round 82 = .ok (.invokevirtual 156, 3) := by decide +kernel
theorem dX6_round_85 : decode cX6_round 85 = .ok (.aload_n 0, 1) := by decide +kernel
theorem dX6_round_86 : decode cX6_round 86 = .ok (.iload_n 1, 1) := by decide +kernel
theorem dX6_round_87 : decode cX6_round 87 = .ok (.iload_n 3, 1) := by decide +kernel
theorem dX6_round_88 : decode cX6_round 88 = .ok (.invokevirtual 150, 3) := by decide +kernel
theorem dX6_round_91 : decode cX6_round 91 = .ok (.istore 5, 2) := by decide +kernel
theorem dX6_round_93 : decode cX6_round 93 = .ok (.iload 5, 2) := by decide +kernel
theorem dX6_round_95 : decode cX6_round 95 = .ok (.iload_n 3, 1) := by decide +kernel
theorem dX6_round_96 : decode cX6_round 96 = .ok (.if_icmp .ge 9, 3) := by decide +kernel
theorem dX6_round_99 : decode cX6_round 99 = .ok (.iload 5, 2) := by decide +kernel
theorem dX6_round_101 : decode cX6_round 101 = .ok (.istore_n 3, 1) := by decide +kernel
theorem dX6_round_102 : decode cX6_round 102 = .ok (.iload 4, 2) := by decide +kernel
theorem dX6_round_104 : decode cX6_round 104 = .ok (.istore_n 2, 1) := by decide +kernel
theorem dX6_round_105 : decode cX6_round 105 = .ok (.iinc 4 1, 3) := by decide +kernel
theorem dX6_round_108 : decode cX6_round 108 = .ok (.goto (-67), 3) := by decide +kernel
theorem dX6_round_111 : decode cX6_round 111 = .ok (.iload_n 2, 1) := by decide +kernel
theorem dX6_round_112 : decode cX6_round 112 = .ok (.invokestatic 160, 3) := by decide +kernel
theorem dX6_round_115 : decode cX6_round 115 = .ok (.ireturn, 1) := by decide +kernel
set_option maxRecDepth 20000 in
theorem ggX6_deeds_X1_isThere : GoodIn wsX6_deeds wsX1_isThere := goodIn_r _ [8, 9, 44, 45, 46, 47, 48, 49, 50, 51, 52, 53, 54, 55] rfl (by decide +kernel)
set_option maxRecDepth 20000 in
theorem gX6_deeds_X1_isThere : GoodIn wsX6_deeds (wsV RX6 91 RX1 yX1_isThere wsX1_isThere) := goodIn_app (goodIn_of _ (by decide +kernel)) ggX6_deeds_X1_isThere
set_option maxRecDepth 20000 in
theorem ggX6_deeds_X6_isWithin : GoodIn wsX6_deeds wsX6_isWithin := goodIn_r _ [13] rfl (by decide +kernel)
set_option maxRecDepth 20000 in
theorem gX6_deeds_X6_isWithin : GoodIn wsX6_deeds (va_wsS RX6 55 yX6_isWithin wsX6_isWithin) := goodIn_app (goodIn_of _ (by decide +kernel)) ggX6_deeds_X6_isWithin
set_option maxRecDepth 20000 in
theorem ggX6_deeds_X6_finding : GoodIn wsX6_deeds wsX6_finding := goodIn_r _ [17, 18, 19, 36, 37, 38, 39, 40, 41, 42, 43] rfl (by decide +kernel)
set_option maxRecDepth 20000 in
theorem gX6_deeds_X6_finding : GoodIn wsX6_deeds (wsV RX6 59 RX6 yX6_finding wsX6_finding) := goodIn_app (goodIn_of _ (by decide +kernel)) ggX6_deeds_X6_finding
set_option maxRecDepth 20000 in
theorem ggX6_deeds_J6_bitCount_0f7a4 : GoodIn wsX6_deeds wsJ6_bitCount_0f7a4 := goodIn_r _ [23, 24, 25, 26] rfl (by decide +kernel)
set_option maxRecDepth 20000 in
theorem gX6_deeds_J6_bitCount_0f7a4 : GoodIn wsX6_deeds (va_wsS RX6 163 yJ6_bitCount_0f7a4 wsJ6_bitCount_0f7a4) := goodIn_app (goodIn_of _ (by decide +kernel)) ggX6_deeds_J6_bitCount_0f7a4
set_option maxRecDepth 20000 in
theorem ggX6_deeds_X0_deserved : GoodIn wsX6_deeds wsX0_deserved := goodIn_r _ [30, 31, 32, 33, 34, 35, 21, 22, 23, 24, 25, 26] rfl (by decide +kernel)
set_option maxRecDepth 20000 in
theorem gX6_deeds_X0_deserved : GoodIn wsX6_deeds (va_wsS RX6 168 yX0_deserved wsX0_deserved) := goodIn_app (goodIn_of _ (by decide +kernel)) ggX6_deeds_X0_deserved
theorem dX6_deeds_0 : decode cX6_deeds 0 = .ok (.aload_n 0, 1) := by decide +kernel
theorem dX6_deeds_1 : decode cX6_deeds 1 = .ok (.getfield 16, 3) := by decide +kernel
theorem dX6_deeds_4 : decode cX6_deeds 4 = .ok (.iload_n 1, 1) := by decide +kernel
theorem dX6_deeds_5 : decode cX6_deeds 5 = .ok (.invokevirtual 91, 3) := by decide +kernel
theorem dX6_deeds_8 : decode cX6_deeds 8 = .ok (.ifCond .eq 13, 3) := by decide +kernel
theorem dX6_deeds_11 : decode cX6_deeds 11 = .ok (.iload_n 2, 1) := by decide +kernel
theorem dX6_deeds_12 : decode cX6_deeds 12 = .ok (.iconst 0, 1) := by decide +kernel
theorem dX6_deeds_13 : decode cX6_deeds 13 = .ok (.bipush 15, 2) := by decide +kernel
theorem dX6_deeds_15 : decode cX6_deeds 15 = .ok (.invokestatic 55, 3) := by decide +kernel
theorem dX6_deeds_18 : decode cX6_deeds 18 = .ok (.ifCond .ne 9, 3) := by decide +kernel
theorem dX6_deeds_21 : decode cX6_deeds 21 = .ok (.aload_n 0, 1) := by decide +kernel
theorem dX6_deeds_22 : decode cX6_deeds 22 = .ok (.iconst 0, 1) := by decide +kernel
theorem dX6_deeds_23 : decode cX6_deeds 23 = .ok (.invokevirtual 59, 3) := by decide +kernel
theorem dX6_deeds_26 : decode cX6_deeds 26 = .ok (.ireturn, 1) := by decide +kernel
theorem dX6_deeds_27 : decode cX6_deeds 27 = .ok (.iconst (-1), 1) := by decide +kernel
theorem dX6_deeds_28 : decode cX6_deeds 28 = .ok (.istore_n 3, 1) := by decide +kernel
theorem dX6_deeds_29 : decode cX6_deeds 29 = .ok (.ldc 146, 2) := by decide +kernel
theorem dX6_deeds_31 : decode cX6_deeds 31 = .ok (.istore 4, 2) := by decide +kernel
theorem dX6_deeds_33 : decode cX6_deeds 33 = .ok (.iconst 0, 1) := by decide +kernel
theorem dX6_deeds_34 : decode cX6_deeds 34 = .ok (.istore 5, 2) := by decide +kernel
theorem dX6_deeds_36 : decode cX6_deeds 36 = .ok (.iload 5, 2) := by decide +kernel
theorem dX6_deeds_38 : decode cX6_deeds 38 = .ok (.sipush 255, 3) := by decide +kernel
theorem dX6_deeds_41 : decode cX6_deeds 41 = .ok (.if_icmp .gt 48, 3) := by decide +kernel
theorem dX6_deeds_44 : decode cX6_deeds 44 = .ok (.iload 5, 2) := by decide +kernel
theorem dX6_deeds_46 : decode cX6_deeds 46 = .ok (.invokestatic 163, 3) := by decide +kernel
theorem dX6_deeds_49 : decode cX6_deeds 49 = .ok (.istore 6, 2) := by decide +kernel
theorem dX6_deeds_51 : decode cX6_deeds 51 = .ok (.iload 6, 2) := by decide +kernel
theorem dX6_deeds_53 : decode cX6_deeds 53 = .ok (.iload 4, 2) := by decide +kernel
theorem dX6_deeds_55 : decode cX6_deeds 55 = .ok (.if_icmp .ge 28, 3) := by decide +kernel
theorem dX6_deeds_58 : decode cX6_deeds 58 = .ok (.aload_n 0, 1) := by decide +kernel
theorem dX6_deeds_59 : decode cX6_deeds 59 = .ok (.getfield 16, 3) := by decide +kernel
theorem dX6_deeds_62 : decode cX6_deeds 62 = .ok (.getfield 106, 3) := by decide +kernel
theorem dX6_deeds_65 : decode cX6_deeds 65 = .ok (.iload_n 1, 1) := by decide +kernel
theorem dX6_deeds_66 : decode cX6_deeds 66 = .ok (.iaload, 1) := by decide +kernel
theorem dX6_deeds_67 : decode cX6_deeds 67 = .ok (.iload 5, 2) := by decide +kernel
theorem dX6_deeds_69 : decode cX6_deeds 69 = .ok (.invokestatic 168, 3) := by decide +kernel
theorem dX6_deeds_72 : decode cX6_deeds 72 = .ok (.iload_n 2, 1) := by decide +kernel
theorem dX6_deeds_73 : decode cX6_deeds 73 = .ok (.if_icmp .lt 10, 3) := by decide +kernel
theorem dX6_deeds_76 : decode cX6_deeds 76 = .ok (.iload 6, 2) := by decide +kernel
theorem dX6_deeds_78 : decode cX6_deeds 78 = .ok (.istore 4, 2) := by decide +kernel
theorem dX6_deeds_80 : decode cX6_deeds 80 = .ok (.iload 5, 2) := by decide +kernel
theorem dX6_deeds_82 : decode cX6_deeds 82 = .ok (.istore_n 3, 1) := by decide +kernel
theorem dX6_deeds_83 : decode cX6_deeds 83 = .ok (.iinc 5 1, 3) := by decide +kernel
theorem dX6_deeds_86 : decode cX6_deeds 86 = .ok (.goto (-50), 3) := by decide +kernel
theorem dX6_deeds_89 : decode cX6_deeds 89 = .ok (.iload_n 3, 1) := by decide +kernel
theorem dX6_deeds_90 : decode cX6_deeds 90 = .ok (.ifCond .ge 11, 3) := by decide +kernel
theorem dX6_deeds_93 : decode cX6_deeds 93 = .ok (.aload_n 0, 1) := by decide +kernel
theorem dX6_deeds_94 : decode cX6_deeds 94 = .ok (.iconst 3, 1) := by decide +kernel
theorem dX6_deeds_95 : decode cX6_deeds 95 = .ok (.invokevirtual 59, 3) := by decide +kernel
theorem dX6_deeds_98 : decode cX6_deeds 98 = .ok (.goto 4, 3) := by decide +kernel
theorem dX6_deeds_101 : decode cX6_deeds 101 = .ok (.iload_n 3, 1) := by decide +kernel
theorem dX6_deeds_102 : decode cX6_deeds 102 = .ok (.ireturn, 1) := by decide +kernel
set_option maxRecDepth 20000 in
theorem ggX6_step_X1_isThere : GoodIn wsX6_step wsX1_isThere := goodIn_r _ [9, 10, 53, 54, 55, 56, 57, 58, 59, 60, 61, 62, 63, 64] rfl (by decide +kernel)
set_option maxRecDepth 20000 in
theorem gX6_step_X1_isThere : GoodIn wsX6_step (wsV RX6 91 RX1 yX1_isThere wsX1_isThere) := goodIn_app (goodIn_of _ (by decide +kernel)) ggX6_step_X1_isThere
set_option maxRecDepth 20000 in
theorem ggX6_step_X6_finding : GoodIn wsX6_step wsX6_finding := goodIn_r _ [15, 16, 17, 45, 46, 47, 48, 49, 50, 51, 52] rfl (by decide +kernel)
set_option maxRecDepth 20000 in
theorem gX6_step_X6_finding : GoodIn wsX6_step (wsV RX6 59 RX6 yX6_finding wsX6_finding) := goodIn_app (goodIn_of _ (by decide +kernel)) ggX6_step_X6_finding
set_option maxRecDepth 20000 in
theorem ggX6_step_X1_gift : GoodIn wsX6_step wsX1_gift := goodIn_r _ [21, 22, 23, 24, 25, 26, 27, 28, 29, 30, 31, 32, 33, 34, 35, 36, 37, 38, 39, 40, 41, 42, 43, 44, 53, 54, 55, 56, 57, 58, 59, 60, 61, 62, 63, 64] rfl (by decide +kernel)
set_option maxRecDepth 20000 in
theorem gX6_step_X1_gift : GoodIn wsX6_step (wsV RX6 171 RX1 yX1_gift wsX1_gift) := goodIn_app (goodIn_of _ (by decide +kernel)) ggX6_step_X1_gift
theorem dX6_step_0 : decode cX6_step 0 = .ok (.aload_n 0, 1) := by decide +kernel
theorem dX6_step_1 : decode cX6_step 1 = .ok (.getfield 16, 3) := by decide +kernel
theorem dX6_step_4 : decode cX6_step 4 = .ok (.iload_n 1, 1) := by decide +kernel
theorem dX6_step_5 : decode cX6_step 5 = .ok (.invokevirtual 91, 3) := by decide +kernel
theorem dX6_step_8 : decode cX6_step 8 = .ok (.ifCond .ne 9, 3) := by decide +kernel
theorem dX6_step_11 : decode cX6_step 11 = .ok (.aload_n 0, 1) := by decide +kernel
theorem dX6_step_12 : decode cX6_step 12 = .ok (.iconst 0, 1) := by decide +kernel
theorem dX6_step_13 : decode cX6_step 13 = .ok (.invokevirtual 59, 3) := by decide +kernel
theorem dX6_step_16 : decode cX6_step 16 = .ok (.ireturn, 1) := by decide +kernel
theorem dX6_step_17 : decode cX6_step 17 = .ok (.iconst 0, 1) := by decide +kernel
theorem dX6_step_18 : decode cX6_step 18 = .ok (.istore_n 2, 1) := by decide +kernel
theorem dX6_step_19 : decode cX6_step 19 = .ok (.iconst (-1), 1) := by decide +kernel
theorem dX6_step_20 : decode cX6_step 20 = .ok (.istore_n 3, 1) := by decide +kernel
theorem dX6_step_21 : decode cX6_step 21 = .ok (.iconst 0, 1) := by decide +kernel
theorem dX6_step_22 : decode cX6_step 22 = .ok (.istore 4, 2) := by decide +kernel
theorem dX6_step_24 : decode cX6_step 24 = .ok (.iload 4, 2) := by decide +kernel
theorem dX6_step_26 : decode cX6_step 26 = .ok (.aload_n 0, 1) := by decide +kernel
theorem dX6_step_27 : decode cX6_step 27 = .ok (.getfield 16, 3) := by decide +kernel
theorem dX6_step_30 : decode cX6_step 30 = .ok (.getfield 84, 3) := by decide +kernel
theorem dX6_step_33 : decode cX6_step 33 = .ok (.if_icmp .ge 51, 3) := by decide +kernel
theorem dX6_step_36 : decode cX6_step 36 = .ok (.aload_n 0, 1) := by decide +kernel
theorem dX6_step_37 : decode cX6_step 37 = .ok (.getfield 16, 3) := by decide +kernel
theorem dX6_step_40 : decode cX6_step 40 = .ok (.iload_n 1, 1) := by decide +kernel
theorem dX6_step_41 : decode cX6_step 41 = .ok (.aload_n 0, 1) := by decide +kernel
theorem dX6_step_42 : decode cX6_step 42 = .ok (.getfield 16, 3) := by decide +kernel
theorem dX6_step_45 : decode cX6_step 45 = .ok (.getfield 106, 3) := by decide +kernel
theorem dX6_step_48 : decode cX6_step 48 = .ok (.iload_n 1, 1) := by decide +kernel
theorem dX6_step_49 : decode cX6_step 49 = .ok (.iaload, 1) := by decide +kernel
theorem dX6_step_50 : decode cX6_step 50 = .ok (.aload_n 0, 1) := by decide +kernel
theorem dX6_step_51 : decode cX6_step 51 = .ok (.getfield 16, 3) := by decide +kernel
theorem dX6_step_54 : decode cX6_step 54 = .ok (.getfield 113, 3) := by decide +kernel
theorem dX6_step_57 : decode cX6_step 57 = .ok (.iload_n 1, 1) := by decide +kernel
theorem dX6_step_58 : decode cX6_step 58 = .ok (.iaload, 1) := by decide +kernel
theorem dX6_step_59 : decode cX6_step 59 = .ok (.iload 4, 2) := by decide +kernel
theorem dX6_step_61 : decode cX6_step 61 = .ok (.invokevirtual 171, 3) := by decide +kernel
theorem dX6_step_64 : decode cX6_step 64 = .ok (.istore 5, 2) := by decide +kernel
theorem dX6_step_66 : decode cX6_step 66 = .ok (.iload 5, 2) := by decide +kernel
theorem dX6_step_68 : decode cX6_step 68 = .ok (.iload_n 3, 1) := by decide +kernel
theorem dX6_step_69 : decode cX6_step 69 = .ok (.if_icmp .le 9, 3) := by decide +kernel
theorem dX6_step_72 : decode cX6_step 72 = .ok (.iload 5, 2) := by decide +kernel
theorem dX6_step_74 : decode cX6_step 74 = .ok (.istore_n 3, 1) := by decide +kernel
theorem dX6_step_75 : decode cX6_step 75 = .ok (.iload 4, 2) := by decide +kernel
theorem dX6_step_77 : decode cX6_step 77 = .ok (.istore_n 2, 1) := by decide +kernel
theorem dX6_step_78 : decode cX6_step 78 = .ok (.iinc 4 1, 3) := by decide +kernel
theorem dX6_step_81 : decode cX6_step 81 = .ok (.goto (-57), 3) := by decide +kernel
theorem dX6_step_84 : decode cX6_step 84 = .ok (.iload_n 2, 1) := by decide +kernel
theorem dX6_step_85 : decode cX6_step 85 = .ok (.ireturn, 1) := by decide +kernel
set_option maxRecDepth 20000 in
theorem ggX6_kind_X1_isThere : GoodIn wsX6_kind wsX1_isThere := goodIn_r _ [8, 9, 52, 53, 54, 55, 56, 57, 58, 59, 60, 61, 62, 63] rfl (by decide +kernel)
set_option maxRecDepth 20000 in
theorem gX6_kind_X1_isThere : GoodIn wsX6_kind (wsV RX6 91 RX1 yX1_isThere wsX1_isThere) := goodIn_app (goodIn_of _ (by decide +kernel)) ggX6_kind_X1_isThere
set_option maxRecDepth 20000 in
theorem ggX6_kind_X6_finding : GoodIn wsX6_kind wsX6_finding := goodIn_r _ [14, 15, 16, 44, 45, 46, 47, 48, 49, 50, 51] rfl (by decide +kernel)
set_option maxRecDepth 20000 in
theorem gX6_kind_X6_finding : GoodIn wsX6_kind (wsV RX6 59 RX6 yX6_finding wsX6_finding) := goodIn_app (goodIn_of _ (by decide +kernel)) ggX6_kind_X6_finding
set_option maxRecDepth 20000 in
theorem ggX6_kind_X1_gift : GoodIn wsX6_kind wsX1_gift := goodIn_r _ [20, 21, 22, 23, 24, 25, 26, 27, 28, 29, 30, 31, 32, 33, 34, 35, 36, 37, 38, 39, 40, 41, 42, 43, 52, 53, 54, 55, 56, 57, 58, 59, 60, 61, 62, 63] rfl (by decide +kernel)
set_option maxRecDepth 20000 in
theorem gX6_kind_X1_gift : GoodIn wsX6_kind (wsV RX6 171 RX1 yX1_gift wsX1_gift) := goodIn_app (goodIn_of _ (by decide +kernel)) ggX6_kind_X1_gift
theorem dX6_kind_0 : decode cX6_kind 0 = .ok (.aload_n 0, 1) := by decide +kernel
theorem dX6_kind_1 : decode cX6_kind 1 = .ok (.getfield 16, 3) := by decide +kernel
theorem dX6_kind_4 : decode cX6_kind 4 = .ok (.iload_n 1, 1) := by decide +kernel
theorem dX6_kind_5 : decode cX6_kind 5 = .ok (.invokevirtual 91, 3) := by decide +kernel
theorem dX6_kind_8 : decode cX6_kind 8 = .ok (.ifCond .ne 9, 3) := by decide +kernel
theorem dX6_kind_11 : decode cX6_kind 11 = .ok (.aload_n 0, 1) := by decide +kernel
theorem dX6_kind_12 : decode cX6_kind 12 = .ok (.iconst 0, 1) := by decide +kernel
theorem dX6_kind_13 : decode cX6_kind 13 = .ok (.invokevirtual 59, 3) := by decide +kernel
theorem dX6_kind_16 : decode cX6_kind 16 = .ok (.ireturn, 1) := by decide +kernel
theorem dX6_kind_17 : decode cX6_kind 17 = .ok (.iconst 0, 1) := by decide +kernel
theorem dX6_kind_18 : decode cX6_kind 18 = .ok (.istore_n 2, 1) := by decide +kernel
theorem dX6_kind_19 : decode cX6_kind 19 = .ok (.iconst (-1), 1) := by decide +kernel
theorem dX6_kind_20 : decode cX6_kind 20 = .ok (.istore_n 3, 1) := by decide +kernel
theorem dX6_kind_21 : decode cX6_kind 21 = .ok (.iconst 0, 1) := by decide +kernel
theorem dX6_kind_22 : decode cX6_kind 22 = .ok (.istore 4, 2) := by decide +kernel
theorem dX6_kind_24 : decode cX6_kind 24 = .ok (.iload 4, 2) := by decide +kernel
theorem dX6_kind_26 : decode cX6_kind 26 = .ok (.bipush 6, 2) := by decide +kernel
theorem dX6_kind_28 : decode cX6_kind 28 = .ok (.if_icmp .ge 51, 3) := by decide +kernel
theorem dX6_kind_31 : decode cX6_kind 31 = .ok (.aload_n 0, 1) := by decide +kernel
theorem dX6_kind_32 : decode cX6_kind 32 = .ok (.getfield 16, 3) := by decide +kernel
theorem dX6_kind_35 : decode cX6_kind 35 = .ok (.iload_n 1, 1) := by decide +kernel
theorem dX6_kind_36 : decode cX6_kind 36 = .ok (.iload 4, 2) := by decide +kernel
theorem dX6_kind_38 : decode cX6_kind 38 = .ok (.aload_n 0, 1) := by decide +kernel
theorem dX6_kind_39 : decode cX6_kind 39 = .ok (.getfield 16, 3) := by decide +kernel
theorem dX6_kind_42 : decode cX6_kind 42 = .ok (.getfield 113, 3) := by decide +kernel
theorem dX6_kind_45 : decode cX6_kind 45 = .ok (.iload_n 1, 1) := by decide +kernel
theorem dX6_kind_46 : decode cX6_kind 46 = .ok (.iaload, 1) := by decide +kernel
theorem dX6_kind_47 : decode cX6_kind 47 = .ok (.aload_n 0, 1) := by decide +kernel
theorem dX6_kind_48 : decode cX6_kind 48 = .ok (.getfield 16, 3) := by decide +kernel
theorem dX6_kind_51 : decode cX6_kind 51 = .ok (.getfield 175, 3) := by decide +kernel
theorem dX6_kind_54 : decode cX6_kind 54 = .ok (.iload_n 1, 1) := by decide +kernel
theorem dX6_kind_55 : decode cX6_kind 55 = .ok (.iaload, 1) := by decide +kernel
theorem dX6_kind_56 : decode cX6_kind 56 = .ok (.invokevirtual 171, 3) := by decide +kernel
theorem dX6_kind_59 : decode cX6_kind 59 = .ok (.istore 5, 2) := by decide +kernel
theorem dX6_kind_61 : decode cX6_kind 61 = .ok (.iload 5, 2) := by decide +kernel
theorem dX6_kind_63 : decode cX6_kind 63 = .ok (.iload_n 3, 1) := by decide +kernel
theorem dX6_kind_64 : decode cX6_kind 64 = .ok (.if_icmp .le 9, 3) := by decide +kernel
theorem dX6_kind_67 : decode cX6_kind 67 = .ok (.iload 5, 2) := by decide +kernel
theorem dX6_kind_69 : decode cX6_kind 69 = .ok (.istore_n 3, 1) := by decide +kernel
theorem dX6_kind_70 : decode cX6_kind 70 = .ok (.iload 4, 2) := by decide +kernel
theorem dX6_kind_72 : decode cX6_kind 72 = .ok (.istore_n 2, 1) := by decide +kernel
theorem dX6_kind_73 : decode cX6_kind 73 = .ok (.iinc 4 1, 3) := by decide +kernel
theorem dX6_kind_76 : decode cX6_kind 76 = .ok (.goto (-52), 3) := by decide +kernel
theorem dX6_kind_79 : decode cX6_kind 79 = .ok (.iload_n 2, 1) := by decide +kernel
theorem dX6_kind_80 : decode cX6_kind 80 = .ok (.ireturn, 1) := by decide +kernel
set_option maxRecDepth 20000 in
theorem ggX6_spring_X6_isWithin : GoodIn wsX6_spring wsX6_isWithin := goodIn_r _ [9] rfl (by decide +kernel)
set_option maxRecDepth 20000 in
theorem gX6_spring_X6_isWithin : GoodIn wsX6_spring (va_wsS RX6 55 yX6_isWithin wsX6_isWithin) := goodIn_app (goodIn_of _ (by decide +kernel)) ggX6_spring_X6_isWithin
set_option maxRecDepth 20000 in
theorem ggX6_spring_X6_finding : GoodIn wsX6_spring wsX6_finding := goodIn_r _ [13, 14, 15, 84, 85, 86, 87, 88, 89, 90, 91] rfl (by decide +kernel)
set_option maxRecDepth 20000 in
theorem gX6_spring_X6_finding : GoodIn wsX6_spring (wsV RX6 59 RX6 yX6_finding wsX6_finding) := goodIn_app (goodIn_of _ (by decide +kernel)) ggX6_spring_X6_finding
set_option maxRecDepth 20000 in
theorem ggX6_spring_X1_become : GoodIn wsX6_spring wsX1_become := goodIn_r _ [20, 21, 22, 23, 24, 25, 26, 27, 28, 29, 30, 31, 32, 33, 34, 35, 36, 92, 93, 94, 95, 96, 97, 98, 99, 100, 101, 102, 103] rfl (by decide +kernel)
set_option maxRecDepth 20000 in
theorem gX6_spring_X1_become : GoodIn wsX6_spring (wsV RX6 139 RX1 yX1_become wsX1_become) := goodIn_app (goodIn_of _ (by decide +kernel)) ggX6_spring_X1_become
set_option maxRecDepth 20000 in
theorem ggX6_spring_X6_dryOfTrial : GoodIn wsX6_spring wsX6_dryOfTrial := goodIn_r _ [40, 4, 41, 3, 42, 43, 19, 44, 45, 46, 47, 48, 28, 31, 32, 36, 34, 29, 49, 50, 51, 52, 30, 53, 54, 55, 56, 57, 58, 59, 60, 33, 35, 26, 61, 62, 63, 64, 65, 66, 67, 68, 69, 70, 71, 72, 73, 74, 75, 76, 77, 78, 79, 80, 81, 82, 83, 21, 27, 84, 85, 86, 87, 88, 89, 90, 91, 92, 93, 94, 95, 96, 97, 98, 99, 100, 101, 102, 103] rfl (by decide +kernel)
set_option maxRecDepth 20000 in
theorem gX6_spring_X6_dryOfTrial : GoodIn wsX6_spring (wsV RX6 150 RX6 yX6_dryOfTrial wsX6_dryOfTrial) := goodIn_app (goodIn_of _ (by decide +kernel)) ggX6_spring_X6_dryOfTrial
theorem dX6_spring_0 : decode cX6_spring 0 = .ok (.iload_n 1, 1) := by decide +kernel
theorem dX6_spring_1 : decode cX6_spring 1 = .ok (.iconst 1, 1) := by decide +kernel
theorem dX6_spring_2 : decode cX6_spring 2 = .ok (.bipush 20, 2) := by decide +kernel
theorem dX6_spring_4 : decode cX6_spring 4 = .ok (.invokestatic 55, 3) := by decide +kernel
theorem dX6_spring_7 : decode cX6_spring 7 = .ok (.ifCond .ne 9, 3) := by decide +kernel
theorem dX6_spring_10 : decode cX6_spring 10 = .ok (.aload_n 0, 1) := by decide +kernel
theorem dX6_spring_11 : decode cX6_spring 11 = .ok (.iconst 0, 1) := by decide +kernel
theorem dX6_spring_12 : decode cX6_spring 12 = .ok (.invokevirtual 59, 3) := by decide +kernel
theorem dX6_spring_15 : decode cX6_spring 15 = .ok (.ireturn, 1) := by decide +kernel
theorem dX6_spring_16 : decode cX6_spring 16 = .ok (.iconst 0, 1) := by decide +kernel
theorem dX6_spring_17 : decode cX6_spring 17 = .ok (.istore_n 2, 1) := by decide +kernel
theorem dX6_spring_18 : decode cX6_spring 18 = .ok (.ldc 146, 2) := by decide +kernel
theorem dX6_spring_20 : decode cX6_spring 20 = .ok (.istore_n 3, 1) := by decide +kernel
theorem dX6_spring_21 : decode cX6_spring 21 = .ok (.iconst 0, 1) := by decide +kernel
theorem dX6_spring_22 : decode cX6_spring 22 = .ok (.istore 4, 2) := by decide +kernel
theorem dX6_spring_24 : decode cX6_spring 24 = .ok (.iload 4, 2) := by decide +kernel
theorem dX6_spring_26 : decode cX6_spring 26 = .ok (.getstatic 73, 3) := by decide +kernel
theorem dX6_spring_29 : decode cX6_spring 29 = .ok (.iconst 1, 1) := by decide +kernel
theorem dX6_spring_30 : decode cX6_spring 30 = .ok (.iaload, 1) := by decide +kernel
theorem dX6_spring_31 : decode cX6_spring 31 = .ok (.if_icmp .gt 55, 3) := by decide +kernel
theorem dX6_spring_34 : decode cX6_spring 34 = .ok (.iload_n 3, 1) := by decide +kernel
theorem dX6_spring_35 : decode cX6_spring 35 = .ok (.ifCond .le 51, 3) := by decide +kernel
theorem dX6_spring_38 : decode cX6_spring 38 = .ok (.aload_n 0, 1) := by decide +kernel
theorem dX6_spring_39 : decode cX6_spring 39 = .ok (.getfield 20, 3) := by decide +kernel
theorem dX6_spring_42 : decode cX6_spring 42 = .ok (.aload_n 0, 1) := by decide +kernel
theorem dX6_spring_43 : decode cX6_spring 43 = .ok (.getfield 16, 3) := by decide +kernel
theorem dX6_spring_46 : decode cX6_spring 46 = .ok (.invokevirtual 139, 3) := by decide +kernel
theorem dX6_spring_49 : decode cX6_spring 49 = .ok (.aload_n 0, 1) := by decide +kernel
theorem dX6_spring_50 : decode cX6_spring 50 = .ok (.getfield 20, 3) := by decide +kernel
theorem dX6_spring_53 : decode cX6_spring 53 = .ok (.getfield 76, 3) := by decide +kernel
theorem dX6_spring_56 : decode cX6_spring 56 = .ok (.iconst 1, 1) := by decide +kernel
theorem dX6_spring_57 : decode cX6_spring 57 = .ok (.iload 4, 2) := by decide +kernel
theorem dX6_spring_59 : decode cX6_spring 59 = .ok (.iastore, 1) := by decide +kernel
theorem dX6_spring_60 : decode cX6_spring 60 = .ok (.aload_n 0, 1) := by decide +kernel
theorem dX6_spring_61 : decode cX6_spring 61 = .ok (.iload_n 1, 1) := by decide +kernel
theorem dX6_spring_62 : decode cX6_spring 62 = .ok (.iload_n 3, 1) := by decide +kernel
theorem dX6_spring_63 : decode cX6_spring 63 = .ok (.invokevirtual 150, 3) := by decide +kernel
theorem dX6_spring_66 : decode cX6_spring 66 = .ok (.istore 5, 2) := by decide +kernel
theorem dX6_spring_68 : decode cX6_spring 68 = .ok (.iload 5, 2) := by decide +kernel
theorem dX6_spring_70 : decode cX6_spring 70 = .ok (.iload_n 3, 1) := by decide +kernel
theorem dX6_spring_71 : decode cX6_spring 71 = .ok (.if_icmp .ge 9, 3) := by decide +kernel
theorem dX6_spring_74 : decode cX6_spring 74 = .ok (.iload 5, 2) := by decide +kernel
theorem dX6_spring_76 : decode cX6_spring 76 = .ok (.istore_n 3, 1) := by decide +kernel
theorem dX6_spring_77 : decode cX6_spring 77 = .ok (.iload 4, 2) := by decide +kernel
theorem dX6_spring_79 : decode cX6_spring 79 = .ok (.istore_n 2, 1) := by decide +kernel
theorem dX6_spring_80 : decode cX6_spring 80 = .ok (.iinc 4 1, 3) := by decide +kernel
theorem dX6_spring_83 : decode cX6_spring 83 = .ok (.goto (-59), 3) := by decide +kernel
theorem dX6_spring_86 : decode cX6_spring 86 = .ok (.iload_n 2, 1) := by decide +kernel
theorem dX6_spring_87 : decode cX6_spring 87 = .ok (.ireturn, 1) := by decide +kernel
set_option maxRecDepth 20000 in
theorem ggX6_enough_X6_isFarm : GoodIn wsX6_enough wsX6_isFarm := goodIn_r _ [11, 12, 13, 10, 14] rfl (by decide +kernel)
set_option maxRecDepth 20000 in
theorem gX6_enough_X6_isFarm : GoodIn wsX6_enough (va_wsS RX6 51 yX6_isFarm wsX6_isFarm) := goodIn_app (goodIn_of _ (by decide +kernel)) ggX6_enough_X6_isFarm
set_option maxRecDepth 20000 in
theorem ggX6_enough_X6_isWithin : GoodIn wsX6_enough wsX6_isWithin := goodIn_r _ [14] rfl (by decide +kernel)
set_option maxRecDepth 20000 in
theorem gX6_enough_X6_isWithin : GoodIn wsX6_enough (va_wsS RX6 55 yX6_isWithin wsX6_isWithin) := goodIn_app (goodIn_of _ (by decide +kernel)) ggX6_enough_X6_isWithin
set_option maxRecDepth 20000 in
theorem ggX6_enough_X6_finding : GoodIn wsX6_enough wsX6_finding := goodIn_r _ [18, 19, 20, 82, 83, 84, 85, 86, 87, 88, 89] rfl (by decide +kernel)
set_option maxRecDepth 20000 in
theorem gX6_enough_X6_finding : GoodIn wsX6_enough (wsV RX6 59 RX6 yX6_finding wsX6_finding) := goodIn_app (goodIn_of _ (by decide +kernel)) ggX6_enough_X6_finding
set_option maxRecDepth 20000 in
theorem ggX6_enough_X1_become : GoodIn wsX6_enough wsX1_become := goodIn_r _ [25, 26, 27, 28, 29, 30, 31, 32, 33, 34, 35, 36, 37, 38, 39, 40, 41, 90, 91, 92, 93, 94, 95, 96, 97, 98, 99, 100, 101] rfl (by decide +kernel)
set_option maxRecDepth 20000 in
theorem gX6_enough_X1_become : GoodIn wsX6_enough (wsV RX6 139 RX1 yX1_become wsX1_become) := goodIn_app (goodIn_of _ (by decide +kernel)) ggX6_enough_X1_become
set_option maxRecDepth 20000 in
theorem ggX6_enough_X1_passDay : GoodIn wsX6_enough wsX1_passDay := goodIn_r _ [45, 33, 36, 37, 41, 39, 34, 46, 5, 6, 7, 35, 47, 48, 49, 24, 50, 51, 52, 53, 54, 38, 40, 31, 55, 56, 57, 58, 59, 60, 61, 62, 63, 64, 65, 66, 67, 68, 69, 70, 71, 72, 73, 74, 75, 76, 77, 26, 32, 90, 91, 92, 93, 94, 95, 96, 97, 98, 99, 100, 101] rfl (by decide +kernel)
set_option maxRecDepth 20000 in
theorem gX6_enough_X1_passDay : GoodIn wsX6_enough (wsV RX6 123 RX1 yX1_passDay wsX1_passDay) := goodIn_app (goodIn_of _ (by decide +kernel)) ggX6_enough_X1_passDay
set_option maxRecDepth 20000 in
theorem ggX6_enough_X1_wasDry : GoodIn wsX6_enough wsX1_wasDry := goodIn_r _ [81, 36, 90, 91, 92, 93, 94, 95, 96, 97, 98, 99, 100, 101] rfl (by decide +kernel)
set_option maxRecDepth 20000 in
theorem gX6_enough_X1_wasDry : GoodIn wsX6_enough (wsV RX6 143 RX1 yX1_wasDry wsX1_wasDry) := goodIn_app (goodIn_of _ (by decide +kernel)) ggX6_enough_X1_wasDry
theorem dX6_enough_0 : decode cX6_enough 0 = .ok (.iload_n 1, 1) := by decide +kernel
theorem dX6_enough_1 : decode cX6_enough 1 = .ok (.invokestatic 51, 3) := by decide +kernel
theorem dX6_enough_4 : decode cX6_enough 4 = .ok (.ifCond .eq 13, 3) := by decide +kernel
theorem dX6_enough_7 : decode cX6_enough 7 = .ok (.iload_n 2, 1) := by decide +kernel
theorem dX6_enough_8 : decode cX6_enough 8 = .ok (.iconst 1, 1) := by decide +kernel
theorem dX6_enough_9 : decode cX6_enough 9 = .ok (.bipush 20, 2) := by decide +kernel
theorem dX6_enough_11 : decode cX6_enough 11 = .ok (.invokestatic 55, 3) := by decide +kernel
theorem dX6_enough_14 : decode cX6_enough 14 = .ok (.ifCond .ne 9, 3) := by decide +kernel
theorem dX6_enough_17 : decode cX6_enough 17 = .ok (.aload_n 0, 1) := by decide +kernel
theorem dX6_enough_18 : decode cX6_enough 18 = .ok (.iconst 0, 1) := by decide +kernel
theorem dX6_enough_19 : decode cX6_enough 19 = .ok (.invokevirtual 59, 3) := by decide +kernel
theorem dX6_enough_22 : decode cX6_enough 22 = .ok (.ireturn, 1) := by decide +kernel
theorem dX6_enough_23 : decode cX6_enough 23 = .ok (.aload_n 0, 1) := by decide +kernel
theorem dX6_enough_24 : decode cX6_enough 24 = .ok (.getfield 20, 3) := by decide +kernel
theorem dX6_enough_27 : decode cX6_enough 27 = .ok (.aload_n 0, 1) := by decide +kernel
theorem dX6_enough_28 : decode cX6_enough 28 = .ok (.getfield 16, 3) := by decide +kernel
theorem dX6_enough_31 : decode cX6_enough 31 = .ok (.invokevirtual 139, 3) := by decide +kernel
theorem dX6_enough_34 : decode cX6_enough 34 = .ok (.aload_n 0, 1) := by decide +kernel
theorem dX6_enough_35 : decode cX6_enough 35 = .ok (.getfield 20, 3) := by decide +kernel
theorem dX6_enough_38 : decode cX6_enough 38 = .ok (.getfield 133, 3) := by decide +kernel
theorem dX6_enough_41 : decode cX6_enough 41 = .ok (.iload_n 1, 1) := by decide +kernel
theorem dX6_enough_42 : decode cX6_enough 42 = .ok (.sipush 400, 3) := by decide +kernel
theorem dX6_enough_45 : decode cX6_enough 45 = .ok (.iastore, 1) := by decide +kernel
theorem dX6_enough_46 : decode cX6_enough 46 = .ok (.sipush 400, 3) := by decide +kernel
theorem dX6_enough_49 : decode cX6_enough 49 = .ok (.istore_n 3, 1) := by decide +kernel
theorem dX6_enough_50 : decode cX6_enough 50 = .ok (.iconst 0, 1) := by decide +kernel
theorem dX6_enough_51 : decode cX6_enough 51 = .ok (.istore 4, 2) := by decide +kernel
theorem dX6_enough_53 : decode cX6_enough 53 = .ok (.iload 4, 2) := by decide +kernel
theorem dX6_enough_55 : decode cX6_enough 55 = .ok (.iload_n 2, 1) := by decide +kernel
theorem dX6_enough_56 : decode cX6_enough 56 = .ok (.if_icmp .ge 47, 3) := by decide +kernel
theorem dX6_enough_59 : decode cX6_enough 59 = .ok (.aload_n 0, 1) := by decide +kernel
theorem dX6_enough_60 : decode cX6_enough 60 = .ok (.getfield 20, 3) := by decide +kernel
theorem dX6_enough_63 : decode cX6_enough 63 = .ok (.invokevirtual 123, 3) := by decide +kernel
theorem dX6_enough_66 : decode cX6_enough 66 = .ok (.aload_n 0, 1) := by decide +kernel
theorem dX6_enough_67 : decode cX6_enough 67 = .ok (.getfield 20, 3) := by decide +kernel
theorem dX6_enough_70 : decode cX6_enough 70 = .ok (.iload_n 1, 1) := by decide +kernel
theorem dX6_enough_71 : decode cX6_enough 71 = .ok (.invokevirtual 143, 3) := by decide +kernel
theorem dX6_enough_74 : decode cX6_enough 74 = .ok (.ifCond .eq 9, 3) := by decide +kernel
theorem dX6_enough_77 : decode cX6_enough 77 = .ok (.aload_n 0, 1) := by decide +kernel
theorem dX6_enough_78 : decode cX6_enough 78 = .ok (.iconst 3, 1) := by decide +kernel
theorem dX6_enough_79 : decode cX6_enough 79 = .ok (.invokevirtual 59, 3) := by decide +kernel
theorem dX6_enough_82 : decode cX6_enough 82 = .ok (.ireturn, 1) := by decide +kernel
theorem dX6_enough_83 : decode cX6_enough 83 = .ok (.iload_n 3, 1) := by decide +kernel
theorem dX6_enough_84 : decode cX6_enough 84 = .ok (.aload_n 0, 1) := by decide +kernel
theorem dX6_enough_85 : decode cX6_enough 85 = .ok (.getfield 20, 3) := by decide +kernel
theorem dX6_enough_88 : decode cX6_enough 88 = .ok (.getfield 133, 3) := by decide +kernel
theorem dX6_enough_91 : decode cX6_enough 91 = .ok (.iload_n 1, 1) := by decide +kernel
theorem dX6_enough_92 : decode cX6_enough 92 = .ok (.iaload, 1) := by decide +kernel
theorem dX6_enough_93 : decode cX6_enough 93 = .ok (.invokestatic 178, 3) := by decide +kernel
theorem dX6_enough_96 : decode cX6_enough 96 = .ok (.istore_n 3, 1) := by decide +kernel
theorem dX6_enough_97 : decode cX6_enough 97 = .ok (.iinc 4 1, 3) := by decide +kernel
theorem dX6_enough_100 : decode cX6_enough 100 = .ok (.goto (-47), 3) := by decide +kernel
theorem dX6_enough_103 : decode cX6_enough 103 = .ok (.sipush 400, 3) := by decide +kernel
theorem dX6_enough_106 : decode cX6_enough 106 = .ok (.iload_n 3, 1) := by decide +kernel
theorem dX6_enough_107 : decode cX6_enough 107 = .ok (.isub, 1) := by decide +kernel
theorem dX6_enough_108 : decode cX6_enough 108 = .ok (.ireturn, 1) := by decide +kernel
set_option maxRecDepth 20000 in
theorem ggX6_worth_X1_isThere : GoodIn wsX6_worth wsX1_isThere := goodIn_r _ [8, 9, 95, 96, 97, 98, 99, 100, 101, 102, 103, 104, 105, 106] rfl (by decide +kernel)
set_option maxRecDepth 20000 in
theorem gX6_worth_X1_isThere : GoodIn wsX6_worth (wsV RX6 91 RX1 yX1_isThere wsX1_isThere) := goodIn_app (goodIn_of _ (by decide +kernel)) ggX6_worth_X1_isThere
set_option maxRecDepth 20000 in
theorem ggX6_worth_X6_isWithin : GoodIn wsX6_worth wsX6_isWithin := goodIn_r _ [13] rfl (by decide +kernel)
set_option maxRecDepth 20000 in
theorem gX6_worth_X6_isWithin : GoodIn wsX6_worth (va_wsS RX6 55 yX6_isWithin wsX6_isWithin) := goodIn_app (goodIn_of _ (by decide +kernel)) ggX6_worth_X6_isWithin
set_option maxRecDepth 20000 in
theorem ggX6_worth_X6_finding : GoodIn wsX6_worth wsX6_finding := goodIn_r _ [17, 18, 19, 87, 88, 89, 90, 91, 92, 93, 94] rfl (by decide +kernel)
set_option maxRecDepth 20000 in
theorem gX6_worth_X6_finding : GoodIn wsX6_worth (wsV RX6 59 RX6 yX6_finding wsX6_finding) := goodIn_app (goodIn_of _ (by decide +kernel)) ggX6_worth_X6_finding
set_option maxRecDepth 20000 in
theorem ggX6_worth_X1_become : GoodIn wsX6_worth wsX1_become := goodIn_r _ [23, 24, 25, 26, 27, 28, 29, 30, 31, 32, 33, 34, 9, 35, 36, 37, 38, 95, 96, 97, 98, 99, 100, 101, 102, 103, 104, 105, 106] rfl (by decide +kernel)
set_option maxRecDepth 20000 in
theorem gX6_worth_X1_become : GoodIn wsX6_worth (wsV RX6 139 RX1 yX1_become wsX1_become) := goodIn_app (goodIn_of _ (by decide +kernel)) ggX6_worth_X1_become
set_option maxRecDepth 20000 in
theorem ggX6_worth_X6_dryOfTrial : GoodIn wsX6_worth wsX6_dryOfTrial := goodIn_r _ [42, 1, 43, 2, 44, 45, 7, 46, 47, 48, 49, 50, 31, 34, 9, 38, 36, 32, 51, 52, 53, 54, 33, 55, 5, 6, 8, 56, 57, 58, 59, 35, 37, 29, 60, 61, 62, 63, 64, 65, 66, 67, 68, 69, 70, 71, 72, 73, 74, 75, 76, 77, 78, 79, 80, 81, 82, 24, 30, 87, 88, 89, 90, 91, 92, 93, 94, 95, 96, 97, 98, 99, 100, 101, 102, 103, 104, 105, 106] rfl (by decide +kernel)
set_option maxRecDepth 20000 in
theorem gX6_worth_X6_dryOfTrial : GoodIn wsX6_worth (wsV RX6 150 RX6 yX6_dryOfTrial wsX6_dryOfTrial) := goodIn_app (goodIn_of _ (by decide +kernel)) ggX6_worth_X6_dryOfTrial
set_option maxRecDepth 20000 in
theorem ggX6_worth_X1_sendNoMore : GoodIn wsX6_worth wsX1_sendNoMore := goodIn_r _ [86, 31, 95, 96, 97, 98, 99, 100, 101, 102, 103, 104, 105, 106] rfl (by decide +kernel)
set_option maxRecDepth 20000 in
theorem gX6_worth_X1_sendNoMore : GoodIn wsX6_worth (wsV RX6 183 RX1 yX1_sendNoMore wsX1_sendNoMore) := goodIn_app (goodIn_of _ (by decide +kernel)) ggX6_worth_X1_sendNoMore
theorem dX6_worth_0 : decode cX6_worth 0 = .ok (.aload_n 0, 1) := by decide +kernel
theorem dX6_worth_1 : decode cX6_worth 1 = .ok (.getfield 16, 3) := by decide +kernel
theorem dX6_worth_4 : decode cX6_worth 4 = .ok (.iload_n 1, 1) := by decide +kernel
theorem dX6_worth_5 : decode cX6_worth 5 = .ok (.invokevirtual 91, 3) := by decide +kernel
theorem dX6_worth_8 : decode cX6_worth 8 = .ok (.ifCond .eq 13, 3) := by decide +kernel
theorem dX6_worth_11 : decode cX6_worth 11 = .ok (.iload_n 2, 1) := by decide +kernel
theorem dX6_worth_12 : decode cX6_worth 12 = .ok (.iconst 1, 1) := by decide +kernel
theorem dX6_worth_13 : decode cX6_worth 13 = .ok (.bipush 20, 2) := by decide +kernel
theorem dX6_worth_15 : decode cX6_worth 15 = .ok (.invokestatic 55, 3) := by decide +kernel
theorem dX6_worth_18 : decode cX6_worth 18 = .ok (.ifCond .ne 9, 3) := by decide +kernel
theorem dX6_worth_21 : decode cX6_worth 21 = .ok (.aload_n 0, 1) := by decide +kernel
theorem dX6_worth_22 : decode cX6_worth 22 = .ok (.iconst 0, 1) := by decide +kernel
theorem dX6_worth_23 : decode cX6_worth 23 = .ok (.invokevirtual 59, 3) := by decide +kernel
theorem dX6_worth_26 : decode cX6_worth 26 = .ok (.ireturn, 1) := by decide +kernel
theorem dX6_worth_27 : decode cX6_worth 27 = .ok (.aload_n 0, 1) := by decide +kernel
theorem dX6_worth_28 : decode cX6_worth 28 = .ok (.getfield 20, 3) := by decide +kernel
theorem dX6_worth_31 : decode cX6_worth 31 = .ok (.aload_n 0, 1) := by decide +kernel
theorem dX6_worth_32 : decode cX6_worth 32 = .ok (.getfield 16, 3) := by decide +kernel
theorem dX6_worth_35 : decode cX6_worth 35 = .ok (.invokevirtual 139, 3) := by decide +kernel
theorem dX6_worth_38 : decode cX6_worth 38 = .ok (.aload_n 0, 1) := by decide +kernel
theorem dX6_worth_39 : decode cX6_worth 39 = .ok (.iload_n 2, 1) := by decide +kernel
theorem dX6_worth_40 : decode cX6_worth 40 = .ok (.ldc 146, 2) := by decide +kernel
theorem dX6_worth_42 : decode cX6_worth 42 = .ok (.invokevirtual 150, 3) := by decide +kernel
theorem dX6_worth_45 : decode cX6_worth 45 = .ok (.istore_n 3, 1) := by decide +kernel
theorem dX6_worth_46 : decode cX6_worth 46 = .ok (.aload_n 0, 1) := by decide +kernel
theorem dX6_worth_47 : decode cX6_worth 47 = .ok (.getfield 20, 3) := by decide +kernel
theorem dX6_worth_50 : decode cX6_worth 50 = .ok (.aload_n 0, 1) := by decide +kernel
theorem dX6_worth_51 : decode cX6_worth 51 = .ok (.getfield 16, 3) := by decide +kernel
theorem dX6_worth_54 : decode cX6_worth 54 = .ok (.invokevirtual 139, 3) := by decide +kernel
theorem dX6_worth_57 : decode cX6_worth 57 = .ok (.aload_n 0, 1) := by decide +kernel
theorem dX6_worth_58 : decode cX6_worth 58 = .ok (.getfield 20, 3) := by decide +kernel
theorem dX6_worth_61 : decode cX6_worth 61 = .ok (.iload_n 1, 1) := by decide +kernel
theorem dX6_worth_62 : decode cX6_worth 62 = .ok (.invokevirtual 183, 3) := by decide +kernel
theorem dX6_worth_65 : decode cX6_worth 65 = .ok (.aload_n 0, 1) := by decide +kernel
theorem dX6_worth_66 : decode cX6_worth 66 = .ok (.iload_n 2, 1) := by decide +kernel
theorem dX6_worth_67 : decode cX6_worth 67 = .ok (.ldc 146, 2) := by decide +kernel
theorem dX6_worth_69 : decode cX6_worth 69 = .ok (.invokevirtual 150, 3) := by decide +kernel
theorem dX6_worth_72 : decode cX6_worth 72 = .ok (.iload_n 3, 1) := by decide +kernel
theorem dX6_worth_73 : decode cX6_worth 73 = .ok (.isub, 1) := by decide +kernel
theorem dX6_worth_74 : decode cX6_worth 74 = .ok (.ireturn, 1) := by decide +kernel
set_option maxRecDepth 20000 in
theorem ggX6_did_X1_isThere : GoodIn wsX6_did wsX1_isThere := goodIn_r _ [8, 9, 52, 53, 54, 55, 56, 57, 58, 59, 60, 61, 62, 63] rfl (by decide +kernel)
set_option maxRecDepth 20000 in
theorem gX6_did_X1_isThere : GoodIn wsX6_did (wsV RX6 91 RX1 yX1_isThere wsX1_isThere) := goodIn_app (goodIn_of _ (by decide +kernel)) ggX6_did_X1_isThere
set_option maxRecDepth 20000 in
theorem ggX6_did_X6_finding : GoodIn wsX6_did wsX6_finding := goodIn_r _ [14, 15, 16, 44, 45, 46, 47, 48, 49, 50, 51] rfl (by decide +kernel)
set_option maxRecDepth 20000 in
theorem gX6_did_X6_finding : GoodIn wsX6_did (wsV RX6 59 RX6 yX6_finding wsX6_finding) := goodIn_app (goodIn_of _ (by decide +kernel)) ggX6_did_X6_finding
set_option maxRecDepth 20000 in
theorem ggX6_did_X1_gift : GoodIn wsX6_did wsX1_gift := goodIn_r _ [20, 21, 22, 23, 24, 25, 26, 27, 28, 29, 30, 31, 32, 33, 34, 35, 36, 37, 38, 39, 40, 41, 42, 43, 52, 53, 54, 55, 56, 57, 58, 59, 60, 61, 62, 63] rfl (by decide +kernel)
set_option maxRecDepth 20000 in
theorem gX6_did_X1_gift : GoodIn wsX6_did (wsV RX6 171 RX1 yX1_gift wsX1_gift) := goodIn_app (goodIn_of _ (by decide +kernel)) ggX6_did_X1_gift
theorem dX6_did_0 : decode cX6_did 0 = .ok (.aload_n 0, 1) := by decide +kernel
theorem dX6_did_1 : decode cX6_did 1 = .ok (.getfield 16, 3) := by decide +kernel
theorem dX6_did_4 : decode cX6_did 4 = .ok (.iload_n 1, 1) := by decide +kernel
theorem dX6_did_5 : decode cX6_did 5 = .ok (.invokevirtual 91, 3) := by decide +kernel
theorem dX6_did_8 : decode cX6_did 8 = .ok (.ifCond .eq 7, 3) := by decide +kernel
theorem dX6_did_11 : decode cX6_did 11 = .ok (.iload_n 2, 1) := by decide +kernel
theorem dX6_did_12 : decode cX6_did 12 = .ok (.ifCond .ge 9, 3) := by decide +kernel
theorem dX6_did_15 : decode cX6_did 15 = .ok (.aload_n 0, 1) := by decide +kernel
theorem dX6_did_16 : decode cX6_did 16 = .ok (.iconst 0, 1) := by decide +kernel
theorem dX6_did_17 : decode cX6_did 17 = .ok (.invokevirtual 59, 3) := by decide +kernel
theorem dX6_did_20 : decode cX6_did 20 = .ok (.ireturn, 1) := by decide +kernel
theorem dX6_did_21 : decode cX6_did 21 = .ok (.iconst 0, 1) := by decide +kernel
theorem dX6_did_22 : decode cX6_did 22 = .ok (.istore_n 3, 1) := by decide +kernel
theorem dX6_did_23 : decode cX6_did 23 = .ok (.iconst 0, 1) := by decide +kernel
theorem dX6_did_24 : decode cX6_did 24 = .ok (.istore 4, 2) := by decide +kernel
theorem dX6_did_26 : decode cX6_did 26 = .ok (.iload 4, 2) := by decide +kernel
theorem dX6_did_28 : decode cX6_did 28 = .ok (.sipush 255, 3) := by decide +kernel
theorem dX6_did_31 : decode cX6_did 31 = .ok (.if_icmp .gt 44, 3) := by decide +kernel
theorem dX6_did_34 : decode cX6_did 34 = .ok (.aload_n 0, 1) := by decide +kernel
theorem dX6_did_35 : decode cX6_did 35 = .ok (.getfield 16, 3) := by decide +kernel
theorem dX6_did_38 : decode cX6_did 38 = .ok (.iload_n 1, 1) := by decide +kernel
theorem dX6_did_39 : decode cX6_did 39 = .ok (.aload_n 0, 1) := by decide +kernel
theorem dX6_did_40 : decode cX6_did 40 = .ok (.getfield 16, 3) := by decide +kernel
theorem dX6_did_43 : decode cX6_did 43 = .ok (.getfield 106, 3) := by decide +kernel
theorem dX6_did_46 : decode cX6_did 46 = .ok (.iload_n 1, 1) := by decide +kernel
theorem dX6_did_47 : decode cX6_did 47 = .ok (.iaload, 1) := by decide +kernel
theorem dX6_did_48 : decode cX6_did 48 = .ok (.iload 4, 2) := by decide +kernel
theorem dX6_did_50 : decode cX6_did 50 = .ok (.aload_n 0, 1) := by decide +kernel
theorem dX6_did_51 : decode cX6_did 51 = .ok (.getfield 16, 3) := by decide +kernel
theorem dX6_did_54 : decode cX6_did 54 = .ok (.getfield 175, 3) := by decide +kernel
theorem dX6_did_57 : decode cX6_did 57 = .ok (.iload_n 1, 1) := by decide +kernel
theorem dX6_did_58 : decode cX6_did 58 = .ok (.iaload, 1) := by decide +kernel
theorem dX6_did_59 : decode cX6_did 59 = .ok (.invokevirtual 171, 3) := by decide +kernel
theorem dX6_did_62 : decode cX6_did 62 = .ok (.iload_n 2, 1) := by decide +kernel
theorem dX6_did_63 : decode cX6_did 63 = .ok (.if_icmp .ne 6, 3) := by decide +kernel
theorem dX6_did_66 : decode cX6_did 66 = .ok (.iinc 3 1, 3) := by decide +kernel
theorem dX6_did_69 : decode cX6_did 69 = .ok (.iinc 4 1, 3) := by decide +kernel
theorem dX6_did_72 : decode cX6_did 72 = .ok (.goto (-46), 3) := by decide +kernel
theorem dX6_did_75 : decode cX6_did 75 = .ok (.iload_n 3, 1) := by decide +kernel
theorem dX6_did_76 : decode cX6_did 76 = .ok (.ireturn, 1) := by decide +kernel
set_option maxRecDepth 20000 in
theorem ggX6_feed_X6_isWithin : GoodIn wsX6_feed wsX6_isWithin := goodIn_r _ [6] rfl (by decide +kernel)
set_option maxRecDepth 20000 in
theorem gX6_feed_X6_isWithin : GoodIn wsX6_feed (va_wsS RX6 55 yX6_isWithin wsX6_isWithin) := goodIn_app (goodIn_of _ (by decide +kernel)) ggX6_feed_X6_isWithin
set_option maxRecDepth 20000 in
theorem ggX6_feed_X6_finding : GoodIn wsX6_feed wsX6_finding := goodIn_r _ [10, 11, 12, 20, 21, 22, 23, 24, 25, 26, 27] rfl (by decide +kernel)
set_option maxRecDepth 20000 in
theorem gX6_feed_X6_finding : GoodIn wsX6_feed (wsV RX6 59 RX6 yX6_finding wsX6_finding) := goodIn_app (goodIn_of _ (by decide +kernel)) ggX6_feed_X6_finding
set_option maxRecDepth 20000 in
theorem ggX6_feed_X4_append : GoodIn wsX6_feed wsX4_append := goodIn_r _ [17, 18, 19, 28, 29] rfl (by decide +kernel)
set_option maxRecDepth 20000 in
theorem gX6_feed_X4_append : GoodIn wsX6_feed (wsV RX6 189 RX4 yX4_append wsX4_append) := goodIn_app (goodIn_of _ (by decide +kernel)) ggX6_feed_X4_append
theorem dX6_feed_0 : decode cX6_feed 0 = .ok (.iload_n 2, 1) := by decide +kernel
theorem dX6_feed_1 : decode cX6_feed 1 = .ok (.iconst 1, 1) := by decide +kernel
theorem dX6_feed_2 : decode cX6_feed 2 = .ok (.iconst 4, 1) := by decide +kernel
theorem dX6_feed_3 : decode cX6_feed 3 = .ok (.invokestatic 55, 3) := by decide +kernel
theorem dX6_feed_6 : decode cX6_feed 6 = .ok (.ifCond .ne 9, 3) := by decide +kernel
theorem dX6_feed_9 : decode cX6_feed 9 = .ok (.aload_n 0, 1) := by decide +kernel
theorem dX6_feed_10 : decode cX6_feed 10 = .ok (.iconst 0, 1) := by decide +kernel
theorem dX6_feed_11 : decode cX6_feed 11 = .ok (.invokevirtual 59, 3) := by decide +kernel
theorem dX6_feed_14 : decode cX6_feed 14 = .ok (.ireturn, 1) := by decide +kernel
theorem dX6_feed_15 : decode cX6_feed 15 = .ok (.aload_n 0, 1) := by decide +kernel
theorem dX6_feed_16 : decode cX6_feed 16 = .ok (.getfield 33, 3) := by decide +kernel
theorem dX6_feed_19 : decode cX6_feed 19 = .ok (.getfield 186, 3) := by decide +kernel
theorem dX6_feed_22 : decode cX6_feed 22 = .ok (.iload_n 2, 1) := by decide +kernel
theorem dX6_feed_23 : decode cX6_feed 23 = .ok (.iadd, 1) := by decide +kernel
theorem dX6_feed_24 : decode cX6_feed 24 = .ok (.bipush 120, 2) := by decide +kernel
theorem dX6_feed_26 : decode cX6_feed 26 = .ok (.if_icmp .le 9, 3) := by decide +kernel
theorem dX6_feed_29 : decode cX6_feed 29 = .ok (.aload_n 0, 1) := by decide +kernel
theorem dX6_feed_30 : decode cX6_feed 30 = .ok (.iconst 1, 1) := by decide +kernel
theorem dX6_feed_31 : decode cX6_feed 31 = .ok (.invokevirtual 59, 3) := by decide +kernel
theorem dX6_feed_34 : decode cX6_feed 34 = .ok (.ireturn, 1) := by decide +kernel
theorem dX6_feed_35 : decode cX6_feed 35 = .ok (.aload_n 0, 1) := by decide +kernel
theorem dX6_feed_36 : decode cX6_feed 36 = .ok (.getfield 33, 3) := by decide +kernel
theorem dX6_feed_39 : decode cX6_feed 39 = .ok (.iload_n 1, 1) := by decide +kernel
theorem dX6_feed_40 : decode cX6_feed 40 = .ok (.iload_n 2, 1) := by decide +kernel
theorem dX6_feed_41 : decode cX6_feed 41 = .ok (.invokevirtual 189, 3) := by decide +kernel
theorem dX6_feed_44 : decode cX6_feed 44 = .ok (.aload_n 0, 1) := by decide +kernel
theorem dX6_feed_45 : decode cX6_feed 45 = .ok (.getfield 33, 3) := by decide +kernel
theorem dX6_feed_48 : decode cX6_feed 48 = .ok (.getfield 186, 3) := by decide +kernel
theorem dX6_feed_51 : decode cX6_feed 51 = .ok (.ireturn, 1) := by decide +kernel
theorem dX6_wipe_0 : decode cX6_wipe 0 = .ok (.aload_n 0, 1) := by decide +kernel
theorem dX6_wipe_1 : decode cX6_wipe 1 = .ok (.getfield 33, 3) := by decide +kernel
theorem dX6_wipe_4 : decode cX6_wipe 4 = .ok (.getfield 186, 3) := by decide +kernel
theorem dX6_wipe_7 : decode cX6_wipe 7 = .ok (.istore_n 1, 1) := by decide +kernel
theorem dX6_wipe_8 : decode cX6_wipe 8 = .ok (.aload_n 0, 1) := by decide +kernel
theorem dX6_wipe_9 : decode cX6_wipe 9 = .ok (.getfield 33, 3) := by decide +kernel
theorem dX6_wipe_12 : decode cX6_wipe 12 = .ok (.iconst 0, 1) := by decide +kernel
theorem dX6_wipe_13 : decode cX6_wipe 13 = .ok (.putfield 186, 3) := by decide +kernel
theorem dX6_wipe_16 : decode cX6_wipe 16 = .ok (.iload_n 1, 1) := by decide +kernel
theorem dX6_wipe_17 : decode cX6_wipe 17 = .ok (.ireturn, 1) := by decide +kernel
set_option maxRecDepth 20000 in
theorem ggX6_parish_X1_become : GoodIn wsX6_parish wsX1_become := goodIn_r _ [10, 11, 12, 13, 14, 15, 16, 17, 18, 19, 20, 21, 22, 23, 24, 25, 26, 184, 185, 186, 187, 188, 189, 190, 191, 192, 193, 194, 195] rfl (by decide +kernel)
set_option maxRecDepth 20000 in
theorem gX6_parish_X1_become : GoodIn wsX6_parish (wsV RX6 139 RX1 yX1_become wsX1_become) := goodIn_app (goodIn_of _ (by decide +kernel)) ggX6_parish_X1_become
set_option maxRecDepth 20000 in
theorem ggX6_parish_X2_readInto : GoodIn wsX6_parish wsX2_readInto := goodIn_r _ [31, 32, 33, 34, 35, 36, 37, 38, 39, 40, 41, 13, 14, 15, 42, 43, 44, 45, 46, 47, 48, 49, 50, 51, 52, 53, 54, 55, 56, 57, 58, 59, 60, 61, 62, 63, 64, 65, 30, 66, 67, 68, 69, 70, 71, 72, 73, 74, 75, 76, 77, 78, 79, 80, 81, 82, 83, 84, 85, 86, 87, 88, 89, 90, 91, 92, 93, 94, 95, 96, 97, 98, 99, 100, 101, 102, 103, 104, 105, 106, 107, 108, 109, 110, 111, 112, 113, 114, 115, 116, 117, 118, 119, 120, 121, 122, 123, 124, 125, 126, 127, 128, 129, 130, 131, 132, 133, 134, 9, 135, 22, 23, 24, 25, 26, 136, 137, 138, 139, 140, 141, 142, 143, 144, 145, 146, 147, 148, 149, 150, 151, 152, 153, 154, 155, 156, 157, 158, 159, 160, 161, 162, 163, 164, 165, 166, 167, 168, 169, 170, 171, 172, 173, 196, 182, 183, 197, 198, 199, 200, 201, 202, 203, 184, 185, 186, 187, 188, 189, 190, 191, 192, 193, 194, 195] rfl (by decide +kernel)
set_option maxRecDepth 20000 in
theorem gX6_parish_X2_readInto : GoodIn wsX6_parish (wsV RX6 193 RX2 yX2_readInto wsX2_readInto) := goodIn_app (goodIn_of _ (by decide +kernel)) ggX6_parish_X2_readInto
theorem dX6_parish_0 : decode cX6_parish 0 = .ok (.aload_n 0, 1) := by decide +kernel
theorem dX6_parish_1 : decode cX6_parish 1 = .ok (.getfield 20, 3) := by decide +kernel
theorem dX6_parish_4 : decode cX6_parish 4 = .ok (.aload_n 0, 1) := by decide +kernel
theorem dX6_parish_5 : decode cX6_parish 5 = .ok (.getfield 16, 3) := by decide +kernel
theorem dX6_parish_8 : decode cX6_parish 8 = .ok (.invokevirtual 139, 3) := by decide +kernel
theorem dX6_parish_11 : decode cX6_parish 11 = .ok (.aload_n 0, 1) := by decide +kernel
theorem dX6_parish_12 : decode cX6_parish 12 = .ok (.getfield 40, 3) := by decide +kernel
theorem dX6_parish_15 : decode cX6_parish 15 = .ok (.aload_n 0, 1) := by decide +kernel
theorem dX6_parish_16 : decode cX6_parish 16 = .ok (.getfield 20, 3) := by decide +kernel
theorem dX6_parish_19 : decode cX6_parish 19 = .ok (.aload_n 0, 1) := by decide +kernel
theorem dX6_parish_20 : decode cX6_parish 20 = .ok (.getfield 33, 3) := by decide +kernel
theorem dX6_parish_23 : decode cX6_parish 23 = .ok (.invokevirtual 193, 3) := by decide +kernel
theorem dX6_parish_26 : decode cX6_parish 26 = .ok (.istore_n 1, 1) := by decide +kernel
theorem dX6_parish_27 : decode cX6_parish 27 = .ok (.aload_n 0, 1) := by decide +kernel
theorem dX6_parish_28 : decode cX6_parish 28 = .ok (.getfield 33, 3) := by decide +kernel
theorem dX6_parish_31 : decode cX6_parish 31 = .ok (.iconst 0, 1) := by decide +kernel
theorem dX6_parish_32 : decode cX6_parish 32 = .ok (.putfield 186, 3) := by decide +kernel
theorem dX6_parish_35 : decode cX6_parish 35 = .ok (.iload_n 1, 1) := by decide +kernel
theorem dX6_parish_36 : decode cX6_parish 36 = .ok (.ifCond .lt 14, 3) := by decide +kernel
theorem dX6_parish_39 : decode cX6_parish 39 = .ok (.aload_n 0, 1) := by decide +kernel
theorem dX6_parish_40 : decode cX6_parish 40 = .ok (.getfield 16, 3) := by decide +kernel
theorem dX6_parish_43 : decode cX6_parish 43 = .ok (.aload_n 0, 1) := by decide +kernel
theorem dX6_parish_44 : decode cX6_parish 44 = .ok (.getfield 20, 3) := by decide +kernel
theorem dX6_parish_47 : decode cX6_parish 47 = .ok (.invokevirtual 139, 3) := by decide +kernel
theorem dX6_parish_50 : decode cX6_parish 50 = .ok (.iload_n 1, 1) := by decide +kernel
theorem dX6_parish_51 : decode cX6_parish 51 = .ok (.ireturn, 1) := by decide +kernel
set_option maxRecDepth 20000 in
theorem ggX6_sheet_X6_isSheet : GoodIn wsX6_sheet wsX6_isSheet := goodIn_r _ [6, 7, 8, 5, 9] rfl (by decide +kernel)
set_option maxRecDepth 20000 in
theorem gX6_sheet_X6_isSheet : GoodIn wsX6_sheet (va_wsS RX6 197 yX6_isSheet wsX6_isSheet) := goodIn_app (goodIn_of _ (by decide +kernel)) ggX6_sheet_X6_isSheet
set_option maxRecDepth 20000 in
theorem ggX6_sheet_X3_areBits : GoodIn wsX6_sheet wsX3_areBits := goodIn_r _ [13] rfl (by decide +kernel)
set_option maxRecDepth 20000 in
theorem gX6_sheet_X3_areBits : GoodIn wsX6_sheet (va_wsS RX6 200 yX3_areBits wsX3_areBits) := goodIn_app (goodIn_of _ (by decide +kernel)) ggX6_sheet_X3_areBits
set_option maxRecDepth 20000 in
theorem ggX6_sheet_X6_finding : GoodIn wsX6_sheet wsX6_finding := goodIn_r _ [17, 18, 19, 31, 32, 33, 34, 35, 36, 37, 38] rfl (by decide +kernel)
set_option maxRecDepth 20000 in
theorem gX6_sheet_X6_finding : GoodIn wsX6_sheet (wsV RX6 59 RX6 yX6_finding wsX6_finding) := goodIn_app (goodIn_of _ (by decide +kernel)) ggX6_sheet_X6_finding
set_option maxRecDepth 20000 in
theorem ggX6_sheet_X3_clear : GoodIn wsX6_sheet wsX3_clear := goodIn_r _ [23, 24, 25, 26, 27, 28, 29, 30, 39, 40, 41] rfl (by decide +kernel)
set_option maxRecDepth 20000 in
theorem gX6_sheet_X3_clear : GoodIn wsX6_sheet (wsV RX6 203 RX3 yX3_clear wsX3_clear) := goodIn_app (goodIn_of _ (by decide +kernel)) ggX6_sheet_X3_clear
theorem dX6_sheet_0 : decode cX6_sheet 0 = .ok (.iload_n 1, 1) := by decide +kernel
theorem dX6_sheet_1 : decode cX6_sheet 1 = .ok (.invokestatic 197, 3) := by decide +kernel
theorem dX6_sheet_4 : decode cX6_sheet 4 = .ok (.ifCond .eq 10, 3) := by decide +kernel
theorem dX6_sheet_7 : decode cX6_sheet 7 = .ok (.iload_n 2, 1) := by decide +kernel
theorem dX6_sheet_8 : decode cX6_sheet 8 = .ok (.invokestatic 200, 3) := by decide +kernel
theorem dX6_sheet_11 : decode cX6_sheet 11 = .ok (.ifCond .ne 9, 3) := by decide +kernel
theorem dX6_sheet_14 : decode cX6_sheet 14 = .ok (.aload_n 0, 1) := by decide +kernel
theorem dX6_sheet_15 : decode cX6_sheet 15 = .ok (.iconst 0, 1) := by decide +kernel
theorem dX6_sheet_16 : decode cX6_sheet 16 = .ok (.invokevirtual 59, 3) := by decide +kernel
theorem dX6_sheet_19 : decode cX6_sheet 19 = .ok (.ireturn, 1) := by decide +kernel
theorem dX6_sheet_20 : decode cX6_sheet 20 = .ok (.iload_n 3, 1) := by decide +kernel
theorem dX6_sheet_21 : decode cX6_sheet 21 = .ok (.ifCond .ge 10, 3) := by decide +kernel
theorem dX6_sheet_24 : decode cX6_sheet 24 = .ok (.aload_n 0, 1) := by decide +kernel
theorem dX6_sheet_25 : decode cX6_sheet 25 = .ok (.bipush 6, 2) := by decide +kernel
theorem dX6_sheet_27 : decode cX6_sheet 27 = .ok (.invokevirtual 59, 3) := by decide +kernel
theorem dX6_sheet_30 : decode cX6_sheet 30 = .ok (.ireturn, 1) := by decide +kernel
theorem dX6_sheet_31 : decode cX6_sheet 31 = .ok (.iload_n 3, 1) := by decide +kernel
theorem dX6_sheet_32 : decode cX6_sheet 32 = .ok (.bipush 40, 2) := by decide +kernel
theorem dX6_sheet_34 : decode cX6_sheet 34 = .ok (.if_icmp .le 9, 3) := by decide +kernel
theorem dX6_sheet_37 : decode cX6_sheet 37 = .ok (.aload_n 0, 1) := by decide +kernel
theorem dX6_sheet_38 : decode cX6_sheet 38 = .ok (.iconst 0, 1) := by decide +kernel
theorem dX6_sheet_39 : decode cX6_sheet 39 = .ok (.invokevirtual 59, 3) := by decide +kernel
theorem dX6_sheet_42 : decode cX6_sheet 42 = .ok (.ireturn, 1) := by decide +kernel
theorem dX6_sheet_43 : decode cX6_sheet 43 = .ok (.aload_n 0, 1) := by decide +kernel
theorem dX6_sheet_44 : decode cX6_sheet 44 = .ok (.getfield 46, 3) := by decide +kernel
theorem dX6_sheet_47 : decode cX6_sheet 47 = .ok (.iload_n 1, 1) := by decide +kernel
theorem dX6_sheet_48 : decode cX6_sheet 48 = .ok (.aaload, 1) := by decide +kernel
theorem dX6_sheet_49 : decode cX6_sheet 49 = .ok (.iload_n 2, 1) := by decide +kernel
theorem dX6_sheet_50 : decode cX6_sheet 50 = .ok (.iload_n 3, 1) := by decide +kernel
theorem dX6_sheet_51 : decode cX6_sheet 51 = .ok (.invokevirtual 203, 3) := by decide +kernel
theorem dX6_sheet_54 : decode cX6_sheet 54 = .ok (.aload_n 0, 1) := by decide +kernel
theorem dX6_sheet_55 : decode cX6_sheet 55 = .ok (.getfield 46, 3) := by decide +kernel
theorem dX6_sheet_58 : decode cX6_sheet 58 = .ok (.iload_n 1, 1) := by decide +kernel
theorem dX6_sheet_59 : decode cX6_sheet 59 = .ok (.aaload, 1) := by decide +kernel
theorem dX6_sheet_60 : decode cX6_sheet 60 = .ok (.getfield 206, 3) := by decide +kernel
theorem dX6_sheet_63 : decode cX6_sheet 63 = .ok (.ireturn, 1) := by decide +kernel
set_option maxRecDepth 20000 in
theorem ggX6_write_X6_isSheet : GoodIn wsX6_write wsX6_isSheet := goodIn_r _ [7, 8, 9, 6, 10] rfl (by decide +kernel)
set_option maxRecDepth 20000 in
theorem gX6_write_X6_isSheet : GoodIn wsX6_write (va_wsS RX6 197 yX6_isSheet wsX6_isSheet) := goodIn_app (goodIn_of _ (by decide +kernel)) ggX6_write_X6_isSheet
set_option maxRecDepth 20000 in
theorem ggX6_write_X6_finding : GoodIn wsX6_write wsX6_finding := goodIn_r _ [14, 15, 16, 28, 29, 30, 31, 32, 33, 34, 35] rfl (by decide +kernel)
set_option maxRecDepth 20000 in
theorem gX6_write_X6_finding : GoodIn wsX6_write (wsV RX6 59 RX6 yX6_finding wsX6_finding) := goodIn_app (goodIn_of _ (by decide +kernel)) ggX6_write_X6_finding
set_option maxRecDepth 20000 in
theorem ggX6_write_X3_isMissing : GoodIn wsX6_write wsX3_isMissing := goodIn_r _ [21, 22, 36, 37, 38] rfl (by decide +kernel)
set_option maxRecDepth 20000 in
theorem gX6_write_X3_isMissing : GoodIn wsX6_write (wsV RX6 209 RX3 yX3_isMissing wsX3_isMissing) := goodIn_app (goodIn_of _ (by decide +kernel)) ggX6_write_X3_isMissing
set_option maxRecDepth 20000 in
theorem ggX6_write_X6_isWithin : GoodIn wsX6_write wsX6_isWithin := goodIn_r _ [10] rfl (by decide +kernel)
set_option maxRecDepth 20000 in
theorem gX6_write_X6_isWithin : GoodIn wsX6_write (va_wsS RX6 55 yX6_isWithin wsX6_isWithin) := goodIn_app (goodIn_of _ (by decide +kernel)) ggX6_write_X6_isWithin
set_option maxRecDepth 20000 in
theorem ggX6_write_X3_put : GoodIn wsX6_write wsX3_put := goodIn_r _ [26, 22, 27, 36, 37, 38] rfl (by decide +kernel)
set_option maxRecDepth 20000 in
theorem gX6_write_X3_put : GoodIn wsX6_write (wsV RX6 217 RX3 yX3_put wsX3_put) := goodIn_app (goodIn_of _ (by decide +kernel)) ggX6_write_X3_put
theorem dX6_write_0 : decode cX6_write 0 = .ok (.iload_n 1, 1) := by decide +kernel
theorem dX6_write_1 : decode cX6_write 1 = .ok (.invokestatic 197, 3) := by decide +kernel
theorem dX6_write_4 : decode cX6_write 4 = .ok (.ifCond .ne 10, 3) := by decide +kernel
theorem dX6_write_7 : decode cX6_write 7 = .ok (.aload_n 0, 1) := by decide +kernel
theorem dX6_write_8 : decode cX6_write 8 = .ok (.iconst 0, 1) := by decide +kernel
theorem dX6_write_9 : decode cX6_write 9 = .ok (.invokevirtual 59, 3) := by decide +kernel
theorem dX6_write_12 : decode cX6_write 12 = .ok (.i2l, 1) := by decide +kernel
theorem dX6_write_13 : decode cX6_write 13 = .ok (.lreturn, 1) := by decide +kernel
theorem dX6_write_14 : decode cX6_write 14 = .ok (.aload_n 0, 1) := by decide +kernel
theorem dX6_write_15 : decode cX6_write 15 = .ok (.getfield 46, 3) := by decide +kernel
theorem dX6_write_18 : decode cX6_write 18 = .ok (.iload_n 1, 1) := by decide +kernel
theorem dX6_write_19 : decode cX6_write 19 = .ok (.aaload, 1) := by decide +kernel
theorem dX6_write_20 : decode cX6_write 20 = .ok (.astore 5, 2) := by decide +kernel
theorem dX6_write_22 : decode cX6_write 22 = .ok (.aload 5, 2) := by decide +kernel
theorem dX6_write_24 : decode cX6_write 24 = .ok (.invokevirtual 209, 3) := by decide +kernel
theorem dX6_write_27 : decode cX6_write 27 = .ok (.ifCond .eq 10, 3) := by decide +kernel
theorem dX6_write_30 : decode cX6_write 30 = .ok (.aload_n 0, 1) := by decide +kernel
theorem dX6_write_31 : decode cX6_write 31 = .ok (.iconst 5, 1) := by decide +kernel
theorem dX6_write_32 : decode cX6_write 32 = .ok (.invokevirtual 59, 3) := by decide +kernel
theorem dX6_write_35 : decode cX6_write 35 = .ok (.i2l, 1) := by decide +kernel
theorem dX6_write_36 : decode cX6_write 36 = .ok (.lreturn, 1) := by decide +kernel
theorem dX6_write_37 : decode cX6_write 37 = .ok (.iload_n 2, 1) := by decide +kernel
theorem dX6_write_38 : decode cX6_write 38 = .ok (.iconst 0, 1) := by decide +kernel
theorem dX6_write_39 : decode cX6_write 39 = .ok (.aload 5, 2) := by decide +kernel
theorem dX6_write_41 : decode cX6_write 41 = .ok (.getfield 206, 3) := by decide +kernel
theorem dX6_write_44 : decode cX6_write 44 = .ok (.iconst 1, 1) := by decide +kernel
theorem dX6_write_45 : decode cX6_write 45 = .ok (.isub, 1) := by decide +kernel
theorem dX6_write_46 : decode cX6_write 46 = .ok (.invokestatic 55, 3) := by decide +kernel
theorem dX6_write_49 : decode cX6_write 49 = .ok (.ifCond .ne 10, 3) := by decide +kernel
theorem dX6_write_52 : decode cX6_write 52 = .ok (.aload_n 0, 1) := by decide +kernel
theorem dX6_write_53 : decode cX6_write 53 = .ok (.iconst 0, 1) := by decide +kernel
theorem dX6_write_54 : decode cX6_write 54 = .ok (.invokevirtual 59, 3) := by decide +kernel
theorem dX6_write_57 : decode cX6_write 57 = .ok (.i2l, 1) := by decide +kernel
theorem dX6_write_58 : decode cX6_write 58 = .ok (.lreturn, 1) := by decide +kernel
theorem dX6_write_59 : decode cX6_write 59 = .ok (.aload 5, 2) := by decide +kernel
theorem dX6_write_61 : decode cX6_write 61 = .ok (.getfield 213, 3) := by decide +kernel
theorem dX6_write_64 : decode cX6_write 64 = .ok (.iload_n 2, 1) := by decide +kernel
theorem dX6_write_65 : decode cX6_write 65 = .ok (.laload, 1) := by decide +kernel
theorem dX6_write_66 : decode cX6_write 66 = .ok (.lstore 6, 2) := by decide +kernel
theorem dX6_write_68 : decode cX6_write 68 = .ok (.aload 5, 2) := by decide +kernel
theorem dX6_write_70 : decode cX6_write 70 = .ok (.iload_n 2, 1) := by decide +kernel
theorem dX6_write_71 : decode cX6_write 71 = .ok (.lload_n 3, 1) := by decide +kernel
theorem dX6_write_72 : decode cX6_write 72 = .ok (.invokevirtual 217, 3) := by decide +kernel
theorem dX6_write_75 : decode cX6_write 75 = .ok (.lload 6, 2) := by decide +kernel
theorem dX6_write_77 : decode cX6_write 77 = .ok (.lreturn, 1) := by decide +kernel
set_option maxRecDepth 20000 in
theorem ggX6_copy_X6_isSheet : GoodIn wsX6_copy wsX6_isSheet := goodIn_r _ [11, 12, 13, 10, 14] rfl (by decide +kernel)
set_option maxRecDepth 20000 in
theorem gX6_copy_X6_isSheet : GoodIn wsX6_copy (va_wsS RX6 197 yX6_isSheet wsX6_isSheet) := goodIn_app (goodIn_of _ (by decide +kernel)) ggX6_copy_X6_isSheet
set_option maxRecDepth 20000 in
theorem ggX6_copy_X6_finding : GoodIn wsX6_copy wsX6_finding := goodIn_r _ [18, 19, 20, 32, 33, 34, 35, 36, 37, 38, 39] rfl (by decide +kernel)
set_option maxRecDepth 20000 in
theorem gX6_copy_X6_finding : GoodIn wsX6_copy (wsV RX6 59 RX6 yX6_finding wsX6_finding) := goodIn_app (goodIn_of _ (by decide +kernel)) ggX6_copy_X6_finding
set_option maxRecDepth 20000 in
theorem ggX6_copy_X3_isMissing : GoodIn wsX6_copy wsX3_isMissing := goodIn_r _ [25, 26, 40, 41, 42] rfl (by decide +kernel)
set_option maxRecDepth 20000 in
theorem gX6_copy_X3_isMissing : GoodIn wsX6_copy (wsV RX6 209 RX3 yX3_isMissing wsX3_isMissing) := goodIn_app (goodIn_of _ (by decide +kernel)) ggX6_copy_X3_isMissing
set_option maxRecDepth 20000 in
theorem ggX6_copy_X3_hasSpan : GoodIn wsX6_copy wsX3_hasSpan := goodIn_r _ [30, 31, 40, 41, 42] rfl (by decide +kernel)
set_option maxRecDepth 20000 in
theorem gX6_copy_X3_hasSpan : GoodIn wsX6_copy (wsV RX6 224 RX3 yX3_hasSpan wsX3_hasSpan) := goodIn_app (goodIn_of _ (by decide +kernel)) ggX6_copy_X3_hasSpan
theorem dX6_copy_0 : decode cX6_copy 0 = .ok (.iload_n 1, 1) := by decide +kernel
theorem dX6_copy_1 : decode cX6_copy 1 = .ok (.invokestatic 197, 3) := by decide +kernel
theorem dX6_copy_4 : decode cX6_copy 4 = .ok (.ifCond .eq 10, 3) := by decide +kernel
theorem dX6_copy_7 : decode cX6_copy 7 = .ok (.iload_n 3, 1) := by decide +kernel
theorem dX6_copy_8 : decode cX6_copy 8 = .ok (.invokestatic 197, 3) := by decide +kernel
theorem dX6_copy_11 : decode cX6_copy 11 = .ok (.ifCond .ne 9, 3) := by decide +kernel
theorem dX6_copy_14 : decode cX6_copy 14 = .ok (.aload_n 0, 1) := by decide +kernel
theorem dX6_copy_15 : decode cX6_copy 15 = .ok (.iconst 0, 1) := by decide +kernel
theorem dX6_copy_16 : decode cX6_copy 16 = .ok (.invokevirtual 59, 3) := by decide +kernel
theorem dX6_copy_19 : decode cX6_copy 19 = .ok (.ireturn, 1) := by decide +kernel
theorem dX6_copy_20 : decode cX6_copy 20 = .ok (.aload_n 0, 1) := by decide +kernel
theorem dX6_copy_21 : decode cX6_copy 21 = .ok (.getfield 46, 3) := by decide +kernel
theorem dX6_copy_24 : decode cX6_copy 24 = .ok (.iload_n 1, 1) := by decide +kernel
theorem dX6_copy_25 : decode cX6_copy 25 = .ok (.aaload, 1) := by decide +kernel
theorem dX6_copy_26 : decode cX6_copy 26 = .ok (.astore 6, 2) := by decide +kernel
theorem dX6_copy_28 : decode cX6_copy 28 = .ok (.aload_n 0, 1) := by decide +kernel
theorem dX6_copy_29 : decode cX6_copy 29 = .ok (.getfield 46, 3) := by decide +kernel
theorem dX6_copy_32 : decode cX6_copy 32 = .ok (.iload_n 3, 1) := by decide +kernel
theorem dX6_copy_33 : decode cX6_copy 33 = .ok (.aaload, 1) := by decide +kernel
theorem dX6_copy_34 : decode cX6_copy 34 = .ok (.astore 7, 2) := by decide +kernel
theorem dX6_copy_36 : decode cX6_copy 36 = .ok (.aload 6, 2) := by decide +kernel
theorem dX6_copy_38 : decode cX6_copy 38 = .ok (.invokevirtual 209, 3) := by decide +kernel
theorem dX6_copy_41 : decode cX6_copy 41 = .ok (.ifCond .ne 11, 3) := by decide +kernel
theorem dX6_copy_44 : decode cX6_copy 44 = .ok (.aload 7, 2) := by decide +kernel
theorem dX6_copy_46 : decode cX6_copy 46 = .ok (.invokevirtual 209, 3) := by decide +kernel
theorem dX6_copy_49 : decode cX6_copy 49 = .ok (.ifCond .eq 9, 3) := by decide +kernel
theorem dX6_copy_52 : decode cX6_copy 52 = .ok (.aload_n 0, 1) := by decide +kernel
theorem dX6_copy_53 : decode cX6_copy 53 = .ok (.iconst 5, 1) := by decide +kernel
theorem dX6_copy_54 : decode cX6_copy 54 = .ok (.invokevirtual 59, 3) := by decide +kernel
theorem dX6_copy_57 : decode cX6_copy 57 = .ok (.ireturn, 1) := by decide +kernel
theorem dX6_copy_58 : decode cX6_copy 58 = .ok (.aload 6, 2) := by decide +kernel
theorem dX6_copy_60 : decode cX6_copy 60 = .ok (.getfield 221, 3) := by decide +kernel
theorem dX6_copy_63 : decode cX6_copy 63 = .ok (.aload 7, 2) := by decide +kernel
theorem dX6_copy_65 : decode cX6_copy 65 = .ok (.getfield 221, 3) := by decide +kernel
theorem dX6_copy_68 : decode cX6_copy 68 = .ok (.if_icmp .eq 9, 3) := by decide +kernel
theorem dX6_copy_71 : decode cX6_copy 71 = .ok (.aload_n 0, 1) := by decide +kernel
theorem dX6_copy_72 : decode cX6_copy 72 = .ok (.iconst 2, 1) := by decide +kernel
theorem dX6_copy_73 : decode cX6_copy 73 = .ok (.invokevirtual 59, 3) := by decide +kernel
theorem dX6_copy_76 : decode cX6_copy 76 = .ok (.ireturn, 1) := by decide +kernel
theorem dX6_copy_77 : decode cX6_copy 77 = .ok (.aload 6, 2) := by decide +kernel
theorem dX6_copy_79 : decode cX6_copy 79 = .ok (.iload_n 2, 1) := by decide +kernel
theorem dX6_copy_80 : decode cX6_copy 80 = .ok (.iload 5, 2) := by decide +kernel
theorem dX6_copy_82 : decode cX6_copy 82 = .ok (.invokevirtual 224, 3) := by decide +kernel
theorem dX6_copy_85 : decode cX6_copy 85 = .ok (.ifCond .eq 15, 3) := by decide +kernel
theorem dX6_copy_88 : decode cX6_copy 88 = .ok (.aload 7, 2) := by decide +kernel
theorem dX6_copy_90 : decode cX6_copy 90 = .ok (.iload 4, 2) := by decide +kernel
theorem dX6_copy_92 : decode cX6_copy 92 = .ok (.iload 5, 2) := by decide +kernel
theorem dX6_copy_94 : decode cX6_copy 94 = .ok (.invokevirtual 224, 3) := by decide +kernel
theorem dX6_copy_97 : decode cX6_copy 97 = .ok (.ifCond .ne 9, 3) := by decide +kernel
theorem dX6_copy_100 : decode cX6_copy 100 = .ok (.aload_n 0, 1) := by decide +kernel
theorem dX6_copy_101 : decode cX6_copy 101 = .ok (.iconst 0, 1) := by decide +kernel
theorem dX6_copy_102 : decode cX6_copy 102 = .ok (.invokevirtual 59, 3) := by decide +kernel
theorem dX6_copy_105 : decode cX6_copy 105 = .ok (.ireturn, 1) := by decide +kernel
theorem dX6_copy_106 : decode cX6_copy 106 = .ok (.aload 6, 2) := by decide +kernel
theorem dX6_copy_108 : decode cX6_copy 108 = .ok (.getfield 213, 3) := by decide +kernel
theorem dX6_copy_111 : decode cX6_copy 111 = .ok (.iload_n 2, 1) := by decide +kernel
theorem dX6_copy_112 : decode cX6_copy 112 = .ok (.aload 7, 2) := by decide +kernel
theorem dX6_copy_114 : decode cX6_copy 114 = .ok (.getfield 213, 3) := by decide +kernel
theorem dX6_copy_117 : decode cX6_copy 117 = .ok (.iload 4, 2) := by decide +kernel
theorem dX6_copy_119 : decode cX6_copy 119 = .ok (.iload 5, 2) := by decide +kernel
theorem dX6_copy_121 : decode cX6_copy 121 = .ok (.invokestatic 227, 3) := by decide +kernel
theorem dX6_copy_124 : decode cX6_copy 124 = .ok (.iload 5, 2) := by decide +kernel
theorem dX6_copy_126 : decode cX6_copy 126 = .ok (.ireturn, 1) := by decide +kernel
set_option maxRecDepth 20000 in
theorem ggX6_lays_X6_isSheet : GoodIn wsX6_lays wsX6_isSheet := goodIn_r _ [11, 12, 13, 10, 14] rfl (by decide +kernel)
set_option maxRecDepth 20000 in
theorem gX6_lays_X6_isSheet : GoodIn wsX6_lays (va_wsS RX6 197 yX6_isSheet wsX6_isSheet) := goodIn_app (goodIn_of _ (by decide +kernel)) ggX6_lays_X6_isSheet
set_option maxRecDepth 20000 in
theorem ggX6_lays_X6_finding : GoodIn wsX6_lays wsX6_finding := goodIn_r _ [18, 19, 20, 27, 28, 29, 30, 31, 32, 33, 34] rfl (by decide +kernel)
set_option maxRecDepth 20000 in
theorem gX6_lays_X6_finding : GoodIn wsX6_lays (wsV RX6 59 RX6 yX6_finding wsX6_finding) := goodIn_app (goodIn_of _ (by decide +kernel)) ggX6_lays_X6_finding
set_option maxRecDepth 20000 in
theorem ggX6_lays_X3_isMissing : GoodIn wsX6_lays wsX3_isMissing := goodIn_r _ [25, 26, 35, 36, 37] rfl (by decide +kernel)
set_option maxRecDepth 20000 in
theorem gX6_lays_X3_isMissing : GoodIn wsX6_lays (wsV RX6 209 RX3 yX3_isMissing wsX3_isMissing) := goodIn_app (goodIn_of _ (by decide +kernel)) ggX6_lays_X3_isMissing
theorem dX6_lays_0 : decode cX6_lays 0 = .ok (.iload_n 1, 1) := by decide +kernel
theorem dX6_lays_1 : decode cX6_lays 1 = .ok (.invokestatic 197, 3) := by decide +kernel
theorem dX6_lays_4 : decode cX6_lays 4 = .ok (.ifCond .ne 9, 3) := by decide +kernel
theorem dX6_lays_7 : decode cX6_lays 7 = .ok (.aload_n 0, 1) := by decide +kernel
theorem dX6_lays_8 : decode cX6_lays 8 = .ok (.iconst 0, 1) := by decide +kernel
theorem dX6_lays_9 : decode cX6_lays 9 = .ok (.invokevirtual 59, 3) := by decide +kernel
theorem dX6_lays_12 : decode cX6_lays 12 = .ok (.ireturn, 1) := by decide +kernel
theorem dX6_lays_13 : decode cX6_lays 13 = .ok (.aload_n 0, 1) := by decide +kernel
theorem dX6_lays_14 : decode cX6_lays 14 = .ok (.getfield 46, 3) := by decide +kernel
theorem dX6_lays_17 : decode cX6_lays 17 = .ok (.iload_n 1, 1) := by decide +kernel
theorem dX6_lays_18 : decode cX6_lays 18 = .ok (.aaload, 1) := by decide +kernel
theorem dX6_lays_19 : decode cX6_lays 19 = .ok (.astore_n 2, 1) := by decide +kernel
theorem dX6_lays_20 : decode cX6_lays 20 = .ok (.aload_n 2, 1) := by decide +kernel
theorem dX6_lays_21 : decode cX6_lays 21 = .ok (.invokevirtual 209, 3) := by decide +kernel
theorem dX6_lays_24 : decode cX6_lays 24 = .ok (.ifCond .eq 9, 3) := by decide +kernel
theorem dX6_lays_27 : decode cX6_lays 27 = .ok (.aload_n 0, 1) := by decide +kernel
theorem dX6_lays_28 : decode cX6_lays 28 = .ok (.iconst 5, 1) := by decide +kernel
theorem dX6_lays_29 : decode cX6_lays 29 = .ok (.invokevirtual 59, 3) := by decide +kernel
theorem dX6_lays_32 : decode cX6_lays 32 = .ok (.ireturn, 1) := by decide +kernel
theorem dX6_lays_33 : decode cX6_lays 33 = .ok (.iconst 0, 1) := by decide +kernel
theorem dX6_lays_34 : decode cX6_lays 34 = .ok (.istore_n 3, 1) := by decide +kernel
theorem dX6_lays_35 : decode cX6_lays 35 = .ok (.iconst 0, 1) := by decide +kernel
theorem dX6_lays_36 : decode cX6_lays 36 = .ok (.istore 4, 2) := by decide +kernel
theorem dX6_lays_38 : decode cX6_lays 38 = .ok (.iload 4, 2) := by decide +kernel
theorem dX6_lays_40 : decode cX6_lays 40 = .ok (.aload_n 2, 1) := by decide +kernel
theorem dX6_lays_41 : decode cX6_lays 41 = .ok (.getfield 206, 3) := by decide +kernel
theorem dX6_lays_44 : decode cX6_lays 44 = .ok (.if_icmp .ge 62, 3) := by decide +kernel
theorem dX6_lays_47 : decode cX6_lays 47 = .ok (.iload 4, 2) := by decide +kernel
theorem dX6_lays_49 : decode cX6_lays 49 = .ok (.aload_n 0, 1) := by decide +kernel
theorem dX6_lays_50 : decode cX6_lays 50 = .ok (.getfield 16, 3) := by decide +kernel
theorem dX6_lays_53 : decode cX6_lays 53 = .ok (.getfield 84, 3) := by decide +kernel
theorem dX6_lays_56 : decode cX6_lays 56 = .ok (.if_icmp .ge 50, 3) := by decide +kernel
theorem dX6_lays_59 : decode cX6_lays 59 = .ok (.aload_n 2, 1) := by decide +kernel
theorem dX6_lays_60 : decode cX6_lays 60 = .ok (.getfield 213, 3) := by decide +kernel
theorem dX6_lays_63 : decode cX6_lays 63 = .ok (.iload 4, 2) := by decide +kernel
theorem dX6_lays_65 : decode cX6_lays 65 = .ok (.laload, 1) := by decide +kernel
theorem dX6_lays_66 : decode cX6_lays 66 = .ok (.lstore 5, 2) := by decide +kernel
theorem dX6_lays_68 : decode cX6_lays 68 = .ok (.lload 5, 2) := by decide +kernel
theorem dX6_lays_70 : decode cX6_lays 70 = .ok (.lconst 0, 1) := by decide +kernel
theorem dX6_lays_71 : decode cX6_lays 71 = .ok (.lcmp, 1) := by decide +kernel
theorem dX6_lays_72 : decode cX6_lays 72 = .ok (.ifCond .lt 28, 3) := by decide +kernel
theorem dX6_lays_75 : decode cX6_lays 75 = .ok (.lload 5, 2) := by decide +kernel
theorem dX6_lays_77 : decode cX6_lays 77 = .ok (.ldc2_w 233, 3) := by decide +kernel
theorem dX6_lays_80 : decode cX6_lays 80 = .ok (.lcmp, 1) := by decide +kernel
theorem dX6_lays_81 : decode cX6_lays 81 = .ok (.ifCond .gt 19, 3) := by decide +kernel
theorem dX6_lays_84 : decode cX6_lays 84 = .ok (.aload_n 0, 1) := by decide +kernel
theorem dX6_lays_85 : decode cX6_lays 85 = .ok (.getfield 16, 3) := by decide +kernel
theorem dX6_lays_88 : decode cX6_lays 88 = .ok (.getfield 113, 3) := by decide +kernel
theorem dX6_lays_91 : decode cX6_lays 91 = .ok (.iload 4, 2) := by decide +kernel
theorem dX6_lays_93 : decode cX6_lays 93 = .ok (.lload 5, 2) := by decide +kernel
theorem dX6_lays_95 : decode cX6_lays 95 = .ok (.l2i, 1) := by decide +kernel
theorem dX6_lays_96 : decode cX6_lays 96 = .ok (.iastore, 1) := by decide +kernel
theorem dX6_lays_97 : decode cX6_lays 97 = .ok (.iinc 3 1, 3) := by decide +kernel
theorem dX6_lays_100 : decode cX6_lays 100 = .ok (.iinc 4 1, 3) := by decide +kernel
theorem dX6_lays_103 : decode cX6_lays 103 = .ok (.goto (-65), 3) := by decide +kernel
theorem dX6_lays_106 : decode cX6_lays 106 = .ok (.iload_n 3, 1) := by decide +kernel
theorem dX6_lays_107 : decode cX6_lays 107 = .ok (.ireturn, 1) := by decide +kernel
set_option maxRecDepth 20000 in
theorem ggX6_book_X6_isSheet : GoodIn wsX6_book wsX6_isSheet := goodIn_r _ [9, 10, 11, 8, 12] rfl (by decide +kernel)
set_option maxRecDepth 20000 in
theorem gX6_book_X6_isSheet : GoodIn wsX6_book (va_wsS RX6 197 yX6_isSheet wsX6_isSheet) := goodIn_app (goodIn_of _ (by decide +kernel)) ggX6_book_X6_isSheet
set_option maxRecDepth 20000 in
theorem ggX6_book_X6_finding : GoodIn wsX6_book wsX6_finding := goodIn_r _ [16, 17, 18, 93, 94, 95, 96, 97, 98, 99, 100] rfl (by decide +kernel)
set_option maxRecDepth 20000 in
theorem gX6_book_X6_finding : GoodIn wsX6_book (wsV RX6 59 RX6 yX6_finding wsX6_finding) := goodIn_app (goodIn_of _ (by decide +kernel)) ggX6_book_X6_finding
set_option maxRecDepth 20000 in
theorem ggX6_book_X3_isMissing : GoodIn wsX6_book wsX3_isMissing := goodIn_r _ [23, 24, 101, 102, 103] rfl (by decide +kernel)
set_option maxRecDepth 20000 in
theorem gX6_book_X3_isMissing : GoodIn wsX6_book (wsV RX6 209 RX3 yX3_isMissing wsX3_isMissing) := goodIn_app (goodIn_of _ (by decide +kernel)) ggX6_book_X3_isMissing
set_option maxRecDepth 20000 in
theorem ggX6_book_X6_isFarm : GoodIn wsX6_book wsX6_isFarm := goodIn_r _ [27, 10, 11, 8, 12] rfl (by decide +kernel)
set_option maxRecDepth 20000 in
theorem gX6_book_X6_isFarm : GoodIn wsX6_book (va_wsS RX6 51 yX6_isFarm wsX6_isFarm) := goodIn_app (goodIn_of _ (by decide +kernel)) ggX6_book_X6_isFarm
set_option maxRecDepth 20000 in
theorem ggX6_book_X1_become : GoodIn wsX6_book wsX1_become := goodIn_r _ [32, 33, 34, 35, 36, 37, 38, 39, 40, 41, 42, 43, 44, 45, 46, 47, 48, 104, 105, 106, 107, 108, 109, 110, 111, 112, 113, 114, 115] rfl (by decide +kernel)
set_option maxRecDepth 20000 in
theorem gX6_book_X1_become : GoodIn wsX6_book (wsV RX6 139 RX1 yX1_become wsX1_become) := goodIn_app (goodIn_of _ (by decide +kernel)) ggX6_book_X1_become
set_option maxRecDepth 20000 in
theorem ggX6_book_X3_put : GoodIn wsX6_book wsX3_put := goodIn_r _ [52, 24, 53, 101, 102, 103] rfl (by decide +kernel)
set_option maxRecDepth 20000 in
theorem gX6_book_X3_put : GoodIn wsX6_book (wsV RX6 217 RX3 yX3_put wsX3_put) := goodIn_app (goodIn_of _ (by decide +kernel)) ggX6_book_X3_put
set_option maxRecDepth 20000 in
theorem ggX6_book_X1_passDay : GoodIn wsX6_book wsX1_passDay := goodIn_r _ [57, 40, 43, 44, 48, 46, 41, 58, 59, 60, 61, 42, 62, 63, 64, 31, 65, 66, 67, 68, 69, 45, 47, 38, 70, 71, 72, 73, 74, 75, 76, 77, 78, 79, 80, 81, 82, 83, 84, 85, 86, 87, 88, 89, 90, 91, 92, 33, 39, 104, 105, 106, 107, 108, 109, 110, 111, 112, 113, 114, 115] rfl (by decide +kernel)
set_option maxRecDepth 20000 in
theorem gX6_book_X1_passDay : GoodIn wsX6_book (wsV RX6 123 RX1 yX1_passDay wsX1_passDay) := goodIn_app (goodIn_of _ (by decide +kernel)) ggX6_book_X1_passDay
theorem dX6_book_0 : decode cX6_book 0 = .ok (.iload_n 1, 1) := by decide +kernel
theorem dX6_book_1 : decode cX6_book 1 = .ok (.invokestatic 197, 3) := by decide +kernel
theorem dX6_book_4 : decode cX6_book 4 = .ok (.ifCond .ne 9, 3) := by decide +kernel
theorem dX6_book_7 : decode cX6_book 7 = .ok (.aload_n 0, 1) := by decide +kernel
theorem dX6_book_8 : decode cX6_book 8 = .ok (.iconst 0, 1) := by decide +kernel
theorem dX6_book_9 : decode cX6_book 9 = .ok (.invokevirtual 59, 3) := by decide +kernel
theorem dX6_book_12 : decode cX6_book 12 = .ok (.ireturn, 1) := by decide +kernel
theorem dX6_book_13 : decode cX6_book 13 = .ok (.aload_n 0, 1) := by decide +kernel
theorem dX6_book_14 : decode cX6_book 14 = .ok (.getfield 46, 3) := by decide +kernel
theorem dX6_book_17 : decode cX6_book 17 = .ok (.iload_n 1, 1) := by decide +kernel
theorem dX6_book_18 : decode cX6_book 18 = .ok (.aaload, 1) := by decide +kernel
theorem dX6_book_19 : decode cX6_book 19 = .ok (.astore_n 3, 1) := by decide +kernel
theorem dX6_book_20 : decode cX6_book 20 = .ok (.aload_n 3, 1) := by decide +kernel
theorem dX6_book_21 : decode cX6_book 21 = .ok (.invokevirtual 209, 3) := by decide +kernel
theorem dX6_book_24 : decode cX6_book 24 = .ok (.ifCond .eq 9, 3) := by decide +kernel
theorem dX6_book_27 : decode cX6_book 27 = .ok (.aload_n 0, 1) := by decide +kernel
theorem dX6_book_28 : decode cX6_book 28 = .ok (.iconst 5, 1) := by decide +kernel
theorem dX6_book_29 : decode cX6_book 29 = .ok (.invokevirtual 59, 3) := by decide +kernel
theorem dX6_book_32 : decode cX6_book 32 = .ok (.ireturn, 1) := by decide +kernel
theorem dX6_book_33 : decode cX6_book 33 = .ok (.iload_n 2, 1) := by decide +kernel
theorem dX6_book_34 : decode cX6_book 34 = .ok (.invokestatic 51, 3) := by decide +kernel
theorem dX6_book_37 : decode cX6_book 37 = .ok (.ifCond .ne 9, 3) := by decide +kernel
theorem dX6_book_40 : decode cX6_book 40 = .ok (.aload_n 0, 1) := by decide +kernel
theorem dX6_book_41 : decode cX6_book 41 = .ok (.iconst 0, 1) := by decide +kernel
theorem dX6_book_42 : decode cX6_book 42 = .ok (.invokevirtual 59, 3) := by decide +kernel
theorem dX6_book_45 : decode cX6_book 45 = .ok (.ireturn, 1) := by decide +kernel
theorem dX6_book_46 : decode cX6_book 46 = .ok (.aload_n 0, 1) := by decide +kernel
theorem dX6_book_47 : decode cX6_book 47 = .ok (.getfield 20, 3) := by decide +kernel
theorem dX6_book_50 : decode cX6_book 50 = .ok (.aload_n 0, 1) := by decide +kernel
theorem dX6_book_51 : decode cX6_book 51 = .ok (.getfield 16, 3) := by decide +kernel
theorem dX6_book_54 : decode cX6_book 54 = .ok (.invokevirtual 139, 3) := by decide +kernel
theorem dX6_book_57 : decode cX6_book 57 = .ok (.iconst 0, 1) := by decide +kernel
theorem dX6_book_58 : decode cX6_book 58 = .ok (.istore 4, 2) := by decide +kernel
theorem dX6_book_60 : decode cX6_book 60 = .ok (.iload 4, 2) := by decide +kernel
theorem dX6_book_62 : decode cX6_book 62 = .ok (.aload_n 3, 1) := by decide +kernel
theorem dX6_book_63 : decode cX6_book 63 = .ok (.getfield 206, 3) := by decide +kernel
theorem dX6_book_66 : decode cX6_book 66 = .ok (.if_icmp .ge 32, 3) := by decide +kernel
theorem dX6_book_69 : decode cX6_book 69 = .ok (.aload_n 3, 1) := by decide +kernel
theorem dX6_book_70 : decode cX6_book 70 = .ok (.iload 4, 2) := by decide +kernel
theorem dX6_book_72 : decode cX6_book 72 = .ok (.aload_n 0, 1) := by decide +kernel
theorem dX6_book_73 : decode cX6_book 73 = .ok (.getfield 20, 3) := by decide +kernel
theorem dX6_book_76 : decode cX6_book 76 = .ok (.getfield 133, 3) := by decide +kernel
theorem dX6_book_79 : decode cX6_book 79 = .ok (.iload_n 2, 1) := by decide +kernel
theorem dX6_book_80 : decode cX6_book 80 = .ok (.iaload, 1) := by decide +kernel
theorem dX6_book_81 : decode cX6_book 81 = .ok (.i2l, 1) := by decide +kernel
theorem dX6_book_82 : decode cX6_book 82 = .ok (.invokevirtual 217, 3) := by decide +kernel
theorem dX6_book_85 : decode cX6_book 85 = .ok (.aload_n 0, 1) := by decide +kernel
theorem dX6_book_86 : decode cX6_book 86 = .ok (.getfield 20, 3) := by decide +kernel
theorem dX6_book_89 : decode cX6_book 89 = .ok (.invokevirtual 123, 3) := by decide +kernel
theorem dX6_book_92 : decode cX6_book 92 = .ok (.iinc 4 1, 3) := by decide +kernel
theorem dX6_book_95 : decode cX6_book 95 = .ok (.goto (-35), 3) := by decide +kernel
theorem dX6_book_98 : decode cX6_book 98 = .ok (.aload_n 3, 1) := by decide +kernel
theorem dX6_book_99 : decode cX6_book 99 = .ok (.getfield 206, 3) := by decide +kernel
theorem dX6_book_102 : decode cX6_book 102 = .ok (.ireturn, 1) := by decide +kernel
set_option maxRecDepth 20000 in
theorem ggX6_read_X6_isSheet : GoodIn wsX6_read wsX6_isSheet := goodIn_r _ [9, 10, 11, 8, 12] rfl (by decide +kernel)
set_option maxRecDepth 20000 in
theorem gX6_read_X6_isSheet : GoodIn wsX6_read (va_wsS RX6 197 yX6_isSheet wsX6_isSheet) := goodIn_app (goodIn_of _ (by decide +kernel)) ggX6_read_X6_isSheet
set_option maxRecDepth 20000 in
theorem ggX6_read_X6_finding : GoodIn wsX6_read wsX6_finding := goodIn_r _ [16, 17, 18, 95, 96, 97, 98, 99, 100, 101, 102] rfl (by decide +kernel)
set_option maxRecDepth 20000 in
theorem gX6_read_X6_finding : GoodIn wsX6_read (wsV RX6 59 RX6 yX6_finding wsX6_finding) := goodIn_app (goodIn_of _ (by decide +kernel)) ggX6_read_X6_finding
set_option maxRecDepth 20000 in
theorem ggX6_read_X3_isMissing : GoodIn wsX6_read wsX3_isMissing := goodIn_r _ [23, 24, 115, 116, 117] rfl (by decide +kernel)
set_option maxRecDepth 20000 in
theorem gX6_read_X3_isMissing : GoodIn wsX6_read (wsV RX6 209 RX3 yX3_isMissing wsX3_isMissing) := goodIn_app (goodIn_of _ (by decide +kernel)) ggX6_read_X3_isMissing
set_option maxRecDepth 20000 in
theorem ggX6_read_X6_isFarm : GoodIn wsX6_read wsX6_isFarm := goodIn_r _ [27, 10, 11, 8, 12] rfl (by decide +kernel)
set_option maxRecDepth 20000 in
theorem gX6_read_X6_isFarm : GoodIn wsX6_read (va_wsS RX6 51 yX6_isFarm wsX6_isFarm) := goodIn_app (goodIn_of _ (by decide +kernel)) ggX6_read_X6_isFarm
set_option maxRecDepth 20000 in
theorem ggX6_read_X1_become : GoodIn wsX6_read wsX1_become := goodIn_r _ [32, 33, 34, 35, 36, 37, 38, 39, 40, 41, 42, 43, 44, 45, 46, 47, 48, 103, 104, 105, 106, 107, 108, 109, 110, 111, 112, 113, 114] rfl (by decide +kernel)
set_option maxRecDepth 20000 in
theorem gX6_read_X1_become : GoodIn wsX6_read (wsV RX6 139 RX1 yX1_become wsX1_become) := goodIn_app (goodIn_of _ (by decide +kernel)) ggX6_read_X1_become
set_option maxRecDepth 20000 in
theorem ggX6_read_X6_trialGoesBy : GoodIn wsX6_read wsX6_trialGoesBy := goodIn_r _ [52, 53, 54, 4, 55, 56, 57, 58, 31, 59, 40, 43, 44, 48, 46, 41, 60, 61, 62, 63, 42, 64, 65, 66, 67, 68, 69, 70, 71, 45, 47, 38, 72, 73, 74, 75, 76, 77, 78, 79, 80, 81, 82, 83, 84, 85, 86, 87, 88, 89, 90, 91, 92, 93, 94, 33, 39, 115, 116, 117, 95, 96, 97, 98, 99, 100, 101, 102, 103, 104, 105, 106, 107, 108, 109, 110, 111, 112, 113, 114] rfl (by decide +kernel)
set_option maxRecDepth 20000 in
theorem gX6_read_X6_trialGoesBy : GoodIn wsX6_read (wsV RX6 235 RX6 yX6_trialGoesBy wsX6_trialGoesBy) := goodIn_app (goodIn_of _ (by decide +kernel)) ggX6_read_X6_trialGoesBy
theorem dX6_read_0 : decode cX6_read 0 = .ok (.iload_n 1, 1) := by decide +kernel
theorem dX6_read_1 : decode cX6_read 1 = .ok (.invokestatic 197, 3) := by decide +kernel
theorem dX6_read_4 : decode cX6_read 4 = .ok (.ifCond .ne 9, 3) := by decide +kernel
theorem dX6_read_7 : decode cX6_read 7 = .ok (.aload_n 0, 1) := by decide +kernel
theorem dX6_read_8 : decode cX6_read 8 = .ok (.iconst 0, 1) := by decide +kernel
theorem dX6_read_9 : decode cX6_read 9 = .ok (.invokevirtual 59, 3) := by decide +kernel
theorem dX6_read_12 : decode cX6_read 12 = .ok (.ireturn, 1) := by decide +kernel
theorem dX6_read_13 : decode cX6_read 13 = .ok (.aload_n 0, 1) := by decide +kernel
theorem dX6_read_14 : decode cX6_read 14 = .ok (.getfield 46, 3) := by decide +kernel
theorem dX6_read_17 : decode cX6_read 17 = .ok (.iload_n 1, 1) := by decide +kernel
theorem dX6_read_18 : decode cX6_read 18 = .ok (.aaload, 1) := by decide +kernel
theorem dX6_read_19 : decode cX6_read 19 = .ok (.invokevirtual 209, 3) := by decide +kernel
theorem dX6_read_22 : decode cX6_read 22 = .ok (.ifCond .eq 9, 3) := by decide +kernel
theorem dX6_read_25 : decode cX6_read 25 = .ok (.aload_n 0, 1) := by decide +kernel
theorem dX6_read_26 : decode cX6_read 26 = .ok (.iconst 5, 1) := by decide +kernel
theorem dX6_read_27 : decode cX6_read 27 = .ok (.invokevirtual 59, 3) := by decide +kernel
theorem dX6_read_30 : decode cX6_read 30 = .ok (.ireturn, 1) := by decide +kernel
theorem dX6_read_31 : decode cX6_read 31 = .ok (.iload_n 2, 1) := by decide +kernel
theorem dX6_read_32 : decode cX6_read 32 = .ok (.invokestatic 51, 3) := by decide +kernel
theorem dX6_read_35 : decode cX6_read 35 = .ok (.ifCond .ne 9, 3) := by decide +kernel
theorem dX6_read_38 : decode cX6_read 38 = .ok (.aload_n 0, 1) := by decide +kernel
theorem dX6_read_39 : decode cX6_read 39 = .ok (.iconst 0, 1) := by decide +kernel
theorem dX6_read_40 : decode cX6_read 40 = .ok (.invokevirtual 59, 3) := by decide +kernel
theorem dX6_read_43 : decode cX6_read 43 = .ok (.ireturn, 1) := by decide +kernel
theorem dX6_read_44 : decode cX6_read 44 = .ok (.iconst 0, 1) := by decide +kernel
theorem dX6_read_45 : decode cX6_read 45 = .ok (.istore_n 3, 1) := by decide +kernel
theorem dX6_read_46 : decode cX6_read 46 = .ok (.iconst 0, 1) := by decide +kernel
theorem dX6_read_47 : decode cX6_read 47 = .ok (.istore 4, 2) := by decide +kernel
theorem dX6_read_49 : decode cX6_read 49 = .ok (.iload 4, 2) := by decide +kernel
theorem dX6_read_51 : decode cX6_read 51 = .ok (.aload_n 0, 1) := by decide +kernel
theorem dX6_read_52 : decode cX6_read 52 = .ok (.getfield 16, 3) := by decide +kernel
theorem dX6_read_55 : decode cX6_read 55 = .ok (.getfield 84, 3) := by decide +kernel
theorem dX6_read_58 : decode cX6_read 58 = .ok (.if_icmp .ge 48, 3) := by decide +kernel
theorem dX6_read_61 : decode cX6_read 61 = .ok (.aload_n 0, 1) := by decide +kernel
theorem dX6_read_62 : decode cX6_read 62 = .ok (.getfield 20, 3) := by decide +kernel
theorem dX6_read_65 : decode cX6_read 65 = .ok (.aload_n 0, 1) := by decide +kernel
theorem dX6_read_66 : decode cX6_read 66 = .ok (.getfield 16, 3) := by decide +kernel
theorem dX6_read_69 : decode cX6_read 69 = .ok (.invokevirtual 139, 3) := by decide +kernel
theorem dX6_read_72 : decode cX6_read 72 = .ok (.aload_n 0, 1) := by decide +kernel
theorem dX6_read_73 : decode cX6_read 73 = .ok (.getfield 20, 3) := by decide +kernel
theorem dX6_read_76 : decode cX6_read 76 = .ok (.getfield 147, 3) := by decide +kernel
theorem dX6_read_79 : decode cX6_read 79 = .ok (.iload_n 2, 1) := by decide +kernel
theorem dX6_read_80 : decode cX6_read 80 = .ok (.iload 4, 2) := by decide +kernel
theorem dX6_read_82 : decode cX6_read 82 = .ok (.iastore, 1) := by decide +kernel
theorem dX6_read_83 : decode cX6_read 83 = .ok (.aload_n 0, 1) := by decide +kernel
theorem dX6_read_84 : decode cX6_read 84 = .ok (.aload_n 0, 1) := by decide +kernel
theorem dX6_read_85 : decode cX6_read 85 = .ok (.getfield 46, 3) := by decide +kernel
theorem dX6_read_88 : decode cX6_read 88 = .ok (.iload_n 1, 1) := by decide +kernel
theorem dX6_read_89 : decode cX6_read 89 = .ok (.aaload, 1) := by decide +kernel
theorem dX6_read_90 : decode cX6_read 90 = .ok (.iload_n 2, 1) := by decide +kernel
theorem dX6_read_91 : decode cX6_read 91 = .ok (.invokevirtual 235, 3) := by decide +kernel
theorem dX6_read_94 : decode cX6_read 94 = .ok (.ifCond .eq 6, 3) := by decide +kernel
theorem dX6_read_97 : decode cX6_read 97 = .ok (.iinc 3 1, 3) := by decide +kernel
theorem dX6_read_100 : decode cX6_read 100 = .ok (.iinc 4 1, 3) := by decide +kernel
theorem dX6_read_103 : decode cX6_read 103 = .ok (.goto (-54), 3) := by decide +kernel
theorem dX6_read_106 : decode cX6_read 106 = .ok (.iload_n 3, 1) := by decide +kernel
theorem dX6_read_107 : decode cX6_read 107 = .ok (.ireturn, 1) := by decide +kernel
set_option maxRecDepth 20000 in
theorem ggX6_image_X1_become : GoodIn wsX6_image wsX1_become := goodIn_r _ [8, 9, 10, 11, 12, 13, 14, 15, 16, 17, 18, 19, 20, 21, 22, 23, 24, 33, 34, 35, 36, 37, 38, 39, 40, 41, 42, 43, 44] rfl (by decide +kernel)
set_option maxRecDepth 20000 in
theorem gX6_image_X1_become : GoodIn wsX6_image (wsV RX6 139 RX1 yX1_become wsX1_become) := goodIn_app (goodIn_of _ (by decide +kernel)) ggX6_image_X1_become
theorem dX6_image_0 : decode cX6_image 0 = .ok (.aload_n 0, 1) := by decide +kernel
theorem dX6_image_1 : decode cX6_image 1 = .ok (.getfield 23, 3) := by decide +kernel
theorem dX6_image_4 : decode cX6_image 4 = .ok (.aload_n 0, 1) := by decide +kernel
theorem dX6_image_5 : decode cX6_image 5 = .ok (.getfield 16, 3) := by decide +kernel
theorem dX6_image_8 : decode cX6_image 8 = .ok (.invokevirtual 139, 3) := by decide +kernel
theorem dX6_image_11 : decode cX6_image 11 = .ok (.aload_n 0, 1) := by decide +kernel
theorem dX6_image_12 : decode cX6_image 12 = .ok (.iconst 1, 1) := by decide +kernel
theorem dX6_image_13 : decode cX6_image 13 = .ok (.putfield 26, 3) := by decide +kernel
theorem dX6_image_16 : decode cX6_image 16 = .ok (.iconst 1, 1) := by decide +kernel
theorem dX6_image_17 : decode cX6_image 17 = .ok (.ireturn, 1) := by decide +kernel
set_option maxRecDepth 20000 in
theorem ggX6_undo_X6_finding : GoodIn wsX6_undo wsX6_finding := goodIn_r _ [9, 10, 11, 33, 34, 35, 36, 37, 38, 39, 40] rfl (by decide +kernel)
set_option maxRecDepth 20000 in
theorem gX6_undo_X6_finding : GoodIn wsX6_undo (wsV RX6 59 RX6 yX6_finding wsX6_finding) := goodIn_app (goodIn_of _ (by decide +kernel)) ggX6_undo_X6_finding
set_option maxRecDepth 20000 in
theorem ggX6_undo_X1_become : GoodIn wsX6_undo wsX1_become := goodIn_r _ [16, 17, 18, 19, 20, 21, 22, 23, 24, 25, 26, 27, 28, 29, 30, 31, 32, 41, 42, 43, 44, 45, 46, 47, 48, 49, 50, 51, 52] rfl (by decide +kernel)
set_option maxRecDepth 20000 in
theorem gX6_undo_X1_become : GoodIn wsX6_undo (wsV RX6 139 RX1 yX1_become wsX1_become) := goodIn_app (goodIn_of _ (by decide +kernel)) ggX6_undo_X1_become
theorem dX6_undo_0 : decode cX6_undo 0 = .ok (.aload_n 0, 1) := by decide +kernel
theorem dX6_undo_1 : decode cX6_undo 1 = .ok (.getfield 26, 3) := by decide +kernel
theorem dX6_undo_4 : decode cX6_undo 4 = .ok (.ifCond .ne 9, 3) := by decide +kernel
theorem dX6_undo_7 : decode cX6_undo 7 = .ok (.aload_n 0, 1) := by decide +kernel
theorem dX6_undo_8 : decode cX6_undo 8 = .ok (.iconst 3, 1) := by decide +kernel
theorem dX6_undo_9 : decode cX6_undo 9 = .ok (.invokevirtual 59, 3) := by decide +kernel
theorem dX6_undo_12 : decode cX6_undo 12 = .ok (.ireturn, 1) := by decide +kernel
theorem dX6_undo_13 : decode cX6_undo 13 = .ok (.aload_n 0, 1) := by decide +kernel
theorem dX6_undo_14 : decode cX6_undo 14 = .ok (.getfield 16, 3) := by decide +kernel
theorem dX6_undo_17 : decode cX6_undo 17 = .ok (.aload_n 0, 1) := by decide +kernel
theorem dX6_undo_18 : decode cX6_undo 18 = .ok (.getfield 23, 3) := by decide +kernel
theorem dX6_undo_21 : decode cX6_undo 21 = .ok (.invokevirtual 139, 3) := by decide +kernel
theorem dX6_undo_24 : decode cX6_undo 24 = .ok (.aload_n 0, 1) := by decide +kernel
theorem dX6_undo_25 : decode cX6_undo 25 = .ok (.getfield 16, 3) := by decide +kernel
theorem dX6_undo_28 : decode cX6_undo 28 = .ok (.getfield 84, 3) := by decide +kernel
theorem dX6_undo_31 : decode cX6_undo 31 = .ok (.ireturn, 1) := by decide +kernel
theorem dX6_tear_0 : decode cX6_tear 0 = .ok (.aload_n 0, 1) := by decide +kernel
theorem dX6_tear_1 : decode cX6_tear 1 = .ok (.getfield 26, 3) := by decide +kernel
theorem dX6_tear_4 : decode cX6_tear 4 = .ok (.ifCond .eq 7, 3) := by decide +kernel
theorem dX6_tear_7 : decode cX6_tear 7 = .ok (.iconst 1, 1) := by decide +kernel
theorem dX6_tear_8 : decode cX6_tear 8 = .ok (.goto 4, 3) := by decide +kernel
theorem dX6_tear_11 : decode cX6_tear 11 = .ok (.iconst 0, 1) := by decide +kernel
theorem dX6_tear_12 : decode cX6_tear 12 = .ok (.istore_n 1, 1) := by decide +kernel
theorem dX6_tear_13 : decode cX6_tear 13 = .ok (.aload_n 0, 1) := by decide +kernel
theorem dX6_tear_14 : decode cX6_tear 14 = .ok (.iconst 0, 1) := by decide +kernel
theorem dX6_tear_15 : decode cX6_tear 15 = .ok (.putfield 26, 3) := by decide +kernel
theorem dX6_tear_18 : decode cX6_tear 18 = .ok (.iload_n 1, 1) := by decide +kernel
theorem dX6_tear_19 : decode cX6_tear 19 = .ok (.ireturn, 1) := by decide +kernel
set_option maxRecDepth 20000 in
theorem ggX6_count_X1_deedsOfAll : GoodIn wsX6_count wsX1_deedsOfAll := goodIn_r _ [9, 10, 11, 12, 13, 14, 15, 16, 17, 18, 39, 40, 41, 42, 43, 44, 45, 46, 47, 48, 49, 50] rfl (by decide +kernel)
set_option maxRecDepth 20000 in
theorem gX6_count_X1_deedsOfAll : GoodIn wsX6_count (wsV RX6 239 RX1 yX1_deedsOfAll wsX1_deedsOfAll) := goodIn_app (goodIn_of _ (by decide +kernel)) ggX6_count_X1_deedsOfAll
set_option maxRecDepth 20000 in
theorem ggX6_count_X1_askedOfAll : GoodIn wsX6_count wsX1_askedOfAll := goodIn_r _ [22, 10, 23, 39, 40, 41, 42, 43, 44, 45, 46, 47, 48, 49, 50] rfl (by decide +kernel)
set_option maxRecDepth 20000 in
theorem gX6_count_X1_askedOfAll : GoodIn wsX6_count (wsV RX6 243 RX1 yX1_askedOfAll wsX1_askedOfAll) := goodIn_app (goodIn_of _ (by decide +kernel)) ggX6_count_X1_askedOfAll
set_option maxRecDepth 20000 in
theorem ggX6_count_X6_finding : GoodIn wsX6_count wsX6_finding := goodIn_r _ [28, 29, 30, 31, 32, 33, 34, 35, 36, 37, 38] rfl (by decide +kernel)
set_option maxRecDepth 20000 in
theorem gX6_count_X6_finding : GoodIn wsX6_count (wsV RX6 59 RX6 yX6_finding wsX6_finding) := goodIn_app (goodIn_of _ (by decide +kernel)) ggX6_count_X6_finding
theorem dX6_count_0 : decode cX6_count 0 = .ok (.iload_n 1, 1) := by decide +kernel
theorem dX6_count_1 : decode cX6_count 1 = .ok (.tableswitch 63 0 3 #[31, 39, 47, 55], 31) := by decide +kernel
theorem dX6_count_32 : decode cX6_count 32 = .ok (.aload_n 0, 1) := by decide +kernel
theorem dX6_count_33 : decode cX6_count 33 = .ok (.getfield 16, 3) := by decide +kernel
theorem dX6_count_36 : decode cX6_count 36 = .ok (.getfield 84, 3) := by decide +kernel
theorem dX6_count_39 : decode cX6_count 39 = .ok (.ireturn, 1) := by decide +kernel
theorem dX6_count_40 : decode cX6_count 40 = .ok (.aload_n 0, 1) := by decide +kernel
theorem dX6_count_41 : decode cX6_count 41 = .ok (.getfield 33, 3) := by decide +kernel
theorem dX6_count_44 : decode cX6_count 44 = .ok (.getfield 186, 3) := by decide +kernel
theorem dX6_count_47 : decode cX6_count 47 = .ok (.ireturn, 1) := by decide +kernel
theorem dX6_count_48 : decode cX6_count 48 = .ok (.aload_n 0, 1) := by decide +kernel
theorem dX6_count_49 : decode cX6_count 49 = .ok (.getfield 16, 3) := by decide +kernel
theorem dX6_count_52 : decode cX6_count 52 = .ok (.invokevirtual 239, 3) := by decide +kernel
theorem dX6_count_55 : decode cX6_count 55 = .ok (.ireturn, 1) := by decide +kernel
theorem dX6_count_56 : decode cX6_count 56 = .ok (.aload_n 0, 1) := by decide +kernel
theorem dX6_count_57 : decode cX6_count 57 = .ok (.getfield 16, 3) := by decide +kernel
theorem dX6_count_60 : decode cX6_count 60 = .ok (.invokevirtual 243, 3) := by decide +kernel
theorem dX6_count_63 : decode cX6_count 63 = .ok (.ireturn, 1) := by decide +kernel
theorem dX6_count_64 : decode cX6_count 64 = .ok (.aload_n 0, 1) := by decide +kernel
theorem dX6_count_65 : decode cX6_count 65 = .ok (.iconst 0, 1) := by decide +kernel
theorem dX6_count_66 : decode cX6_count 66 = .ok (.invokevirtual 59, 3) := by decide +kernel
theorem dX6_count_69 : decode cX6_count 69 = .ok (.ireturn, 1) := by decide +kernel
set_option maxRecDepth 20000 in
theorem ggX6_status_X6_isWithin : GoodIn wsX6_status wsX6_isWithin := goodIn_r _ [5] rfl (by decide +kernel)
set_option maxRecDepth 20000 in
theorem gX6_status_X6_isWithin : GoodIn wsX6_status (va_wsS RX6 55 yX6_isWithin wsX6_isWithin) := goodIn_app (goodIn_of _ (by decide +kernel)) ggX6_status_X6_isWithin
set_option maxRecDepth 20000 in
theorem ggX6_status_X6_finding : GoodIn wsX6_status wsX6_finding := goodIn_r _ [9, 1, 10, 15, 16, 17, 18, 19, 20, 21, 22] rfl (by decide +kernel)
set_option maxRecDepth 20000 in
theorem gX6_status_X6_finding : GoodIn wsX6_status (wsV RX6 59 RX6 yX6_finding wsX6_finding) := goodIn_app (goodIn_of _ (by decide +kernel)) ggX6_status_X6_finding
set_option maxRecDepth 20000 in
theorem ggX6_status_X1_total : GoodIn wsX6_status wsX1_total := goodIn_r _ [14] rfl (by decide +kernel)
set_option maxRecDepth 20000 in
theorem gX6_status_X1_total : GoodIn wsX6_status (va_wsS RX6 129 yX1_total wsX1_total) := goodIn_app (goodIn_of _ (by decide +kernel)) ggX6_status_X1_total
theorem dX6_status_0 : decode cX6_status 0 = .ok (.iload_n 1, 1) := by decide +kernel
theorem dX6_status_1 : decode cX6_status 1 = .ok (.iconst (-1), 1) := by decide +kernel
theorem dX6_status_2 : decode cX6_status 2 = .ok (.bipush 6, 2) := by decide +kernel
theorem dX6_status_4 : decode cX6_status 4 = .ok (.invokestatic 55, 3) := by decide +kernel
theorem dX6_status_7 : decode cX6_status 7 = .ok (.ifCond .ne 9, 3) := by decide +kernel
theorem dX6_status_10 : decode cX6_status 10 = .ok (.aload_n 0, 1) := by decide +kernel
theorem dX6_status_11 : decode cX6_status 11 = .ok (.iconst 0, 1) := by decide +kernel
theorem dX6_status_12 : decode cX6_status 12 = .ok (.invokevirtual 59, 3) := by decide +kernel
theorem dX6_status_15 : decode cX6_status 15 = .ok (.ireturn, 1) := by decide +kernel
theorem dX6_status_16 : decode cX6_status 16 = .ok (.iload_n 1, 1) := by decide +kernel
theorem dX6_status_17 : decode cX6_status 17 = .ok (.ifCond .ge 13, 3) := by decide +kernel
theorem dX6_status_20 : decode cX6_status 20 = .ok (.aload_n 0, 1) := by decide +kernel
theorem dX6_status_21 : decode cX6_status 21 = .ok (.getfield 9, 3) := by decide +kernel
theorem dX6_status_24 : decode cX6_status 24 = .ok (.invokestatic 129, 3) := by decide +kernel
theorem dX6_status_27 : decode cX6_status 27 = .ok (.goto 9, 3) := by decide +kernel
theorem dX6_status_30 : decode cX6_status 30 = .ok (.aload_n 0, 1) := by decide +kernel
theorem dX6_status_31 : decode cX6_status 31 = .ok (.getfield 9, 3) := by decide +kernel
theorem dX6_status_34 : decode cX6_status 34 = .ok (.iload_n 1, 1) := by decide +kernel
theorem dX6_status_35 : decode cX6_status 35 = .ok (.iaload, 1) := by decide +kernel
theorem dX6_status_36 : decode cX6_status 36 = .ok (.ireturn, 1) := by decide +kernel
theorem dX6_finding_0 : decode cX6_finding 0 = .ok (.aload_n 0, 1) := by decide +kernel
theorem dX6_finding_1 : decode cX6_finding 1 = .ok (.getfield 9, 3) := by decide +kernel
theorem dX6_finding_4 : decode cX6_finding 4 = .ok (.iload_n 1, 1) := by decide +kernel
theorem dX6_finding_5 : decode cX6_finding 5 = .ok (.dup2, 1) := by decide +kernel
theorem dX6_finding_6 : decode cX6_finding 6 = .ok (.iaload, 1) := by decide +kernel
theorem dX6_finding_7 : decode cX6_finding 7 = .ok (.iconst 1, 1) := by decide +kernel
theorem dX6_finding_8 : decode cX6_finding 8 = .ok (.iadd, 1) := by decide +kernel
theorem dX6_finding_9 : decode cX6_finding 9 = .ok (.iastore, 1) := by decide +kernel
theorem dX6_finding_10 : decode cX6_finding 10 = .ok (.ldc 246, 2) := by decide +kernel
theorem dX6_finding_12 : decode cX6_finding 12 = .ok (.iload_n 1, 1) := by decide +kernel
theorem dX6_finding_13 : decode cX6_finding 13 = .ok (.isub, 1) := by decide +kernel
theorem dX6_finding_14 : decode cX6_finding 14 = .ok (.ireturn, 1) := by decide +kernel
theorem dX6_isWithin_0 : decode cX6_isWithin 0 = .ok (.iload_n 0, 1) := by decide +kernel
theorem dX6_isWithin_1 : decode cX6_isWithin 1 = .ok (.iload_n 1, 1) := by decide +kernel
theorem dX6_isWithin_2 : decode cX6_isWithin 2 = .ok (.if_icmp .lt 12, 3) := by decide +kernel
theorem dX6_isWithin_5 : decode cX6_isWithin 5 = .ok (.iload_n 0, 1) := by decide +kernel
theorem dX6_isWithin_6 : decode cX6_isWithin 6 = .ok (.iload_n 2, 1) := by decide +kernel
theorem dX6_isWithin_7 : decode cX6_isWithin 7 = .ok (.if_icmp .gt 7, 3) := by decide +kernel
theorem dX6_isWithin_10 : decode cX6_isWithin 10 = .ok (.iconst 1, 1) := by decide +kernel
theorem dX6_isWithin_11 : decode cX6_isWithin 11 = .ok (.goto 4, 3) := by decide +kernel
theorem dX6_isWithin_14 : decode cX6_isWithin 14 = .ok (.iconst 0, 1) := by decide +kernel
theorem dX6_isWithin_15 : decode cX6_isWithin 15 = .ok (.ireturn, 1) := by decide +kernel
set_option maxRecDepth 20000 in
theorem ggX6_isFarm_X6_isWithin : GoodIn wsX6_isFarm wsX6_isWithin := goodIn_r _ [4] rfl (by decide +kernel)
set_option maxRecDepth 20000 in
theorem gX6_isFarm_X6_isWithin : GoodIn wsX6_isFarm (va_wsS RX6 55 yX6_isWithin wsX6_isWithin) := goodIn_app (goodIn_of _ (by decide +kernel)) ggX6_isFarm_X6_isWithin
theorem dX6_isFarm_0 : decode cX6_isFarm 0 = .ok (.iload_n 0, 1) := by decide +kernel
theorem dX6_isFarm_1 : decode cX6_isFarm 1 = .ok (.iconst 0, 1) := by decide +kernel
theorem dX6_isFarm_2 : decode cX6_isFarm 2 = .ok (.iconst 3, 1) := by decide +kernel
theorem dX6_isFarm_3 : decode cX6_isFarm 3 = .ok (.invokestatic 55, 3) := by decide +kernel
theorem dX6_isFarm_6 : decode cX6_isFarm 6 = .ok (.ireturn, 1) := by decide +kernel
set_option maxRecDepth 20000 in
theorem ggX6_isSheet_X6_isWithin : GoodIn wsX6_isSheet wsX6_isWithin := goodIn_r _ [4] rfl (by decide +kernel)
set_option maxRecDepth 20000 in
theorem gX6_isSheet_X6_isWithin : GoodIn wsX6_isSheet (va_wsS RX6 55 yX6_isWithin wsX6_isWithin) := goodIn_app (goodIn_of _ (by decide +kernel)) ggX6_isSheet_X6_isWithin
theorem dX6_isSheet_0 : decode cX6_isSheet 0 = .ok (.iload_n 0, 1) := by decide +kernel
theorem dX6_isSheet_1 : decode cX6_isSheet 1 = .ok (.iconst 0, 1) := by decide +kernel
theorem dX6_isSheet_2 : decode cX6_isSheet 2 = .ok (.iconst 3, 1) := by decide +kernel
theorem dX6_isSheet_3 : decode cX6_isSheet 3 = .ok (.invokestatic 55, 3) := by decide +kernel
theorem dX6_isSheet_6 : decode cX6_isSheet 6 = .ok (.ireturn, 1) := by decide +kernel
set_option maxRecDepth 20000 in
theorem ggX6_dryOfTrial_X1_total : GoodIn wsX6_dryOfTrial wsX1_total := goodIn_r _ [7] rfl (by decide +kernel)
set_option maxRecDepth 20000 in
theorem gX6_dryOfTrial_X1_total : GoodIn wsX6_dryOfTrial (va_wsS RX6 129 yX1_total wsX1_total) := goodIn_app (goodIn_of _ (by decide +kernel)) ggX6_dryOfTrial_X1_total
set_option maxRecDepth 20000 in
theorem ggX6_dryOfTrial_X1_passDay : GoodIn wsX6_dryOfTrial wsX1_passDay := goodIn_r _ [11, 12, 13, 14, 15, 16, 17, 18, 19, 20, 21, 22, 23, 24, 25, 6, 26, 27, 28, 29, 30, 31, 32, 33, 34, 35, 36, 37, 38, 39, 40, 41, 42, 43, 44, 45, 46, 47, 48, 49, 50, 51, 52, 53, 54, 55, 56, 57, 58, 67, 68, 69, 70, 71, 72, 73, 74, 75, 76, 77, 78] rfl (by decide +kernel)
set_option maxRecDepth 20000 in
theorem gX6_dryOfTrial_X1_passDay : GoodIn wsX6_dryOfTrial (wsV RX6 123 RX1 yX1_passDay wsX1_passDay) := goodIn_app (goodIn_of _ (by decide +kernel)) ggX6_dryOfTrial_X1_passDay
theorem dX6_dryOfTrial_0 : decode cX6_dryOfTrial 0 = .ok (.aload_n 0, 1) := by decide +kernel
theorem dX6_dryOfTrial_1 : decode cX6_dryOfTrial 1 = .ok (.getfield 16, 3) := by decide +kernel
theorem dX6_dryOfTrial_4 : decode cX6_dryOfTrial 4 = .ok (.getfield 126, 3) := by decide +kernel
theorem dX6_dryOfTrial_7 : decode cX6_dryOfTrial 7 = .ok (.invokestatic 129, 3) := by decide +kernel
theorem dX6_dryOfTrial_10 : decode cX6_dryOfTrial 10 = .ok (.istore_n 3, 1) := by decide +kernel
theorem dX6_dryOfTrial_11 : decode cX6_dryOfTrial 11 = .ok (.iconst 0, 1) := by decide +kernel
theorem dX6_dryOfTrial_12 : decode cX6_dryOfTrial 12 = .ok (.istore 4, 2) := by decide +kernel
theorem dX6_dryOfTrial_14 : decode cX6_dryOfTrial 14 = .ok (.iconst 0, 1) := by decide +kernel
theorem dX6_dryOfTrial_15 : decode cX6_dryOfTrial 15 = .ok (.istore 5, 2) := by decide +kernel
theorem dX6_dryOfTrial_17 : decode cX6_dryOfTrial 17 = .ok (.iload 5, 2) := by decide +kernel
theorem dX6_dryOfTrial_19 : decode cX6_dryOfTrial 19 = .ok (.iload_n 1, 1) := by decide +kernel
theorem dX6_dryOfTrial_20 : decode cX6_dryOfTrial 20 = .ok (.if_icmp .ge 36, 3) := by decide +kernel
theorem dX6_dryOfTrial_23 : decode cX6_dryOfTrial 23 = .ok (.iload 4, 2) := by decide +kernel
theorem dX6_dryOfTrial_25 : decode cX6_dryOfTrial 25 = .ok (.iload_n 2, 1) := by decide +kernel
theorem dX6_dryOfTrial_26 : decode cX6_dryOfTrial 26 = .ok (.if_icmp .ge 30, 3) := by decide +kernel
theorem dX6_dryOfTrial_29 : decode cX6_dryOfTrial 29 = .ok (.aload_n 0, 1) := by decide +kernel
theorem dX6_dryOfTrial_30 : decode cX6_dryOfTrial 30 = .ok (.getfield 20, 3) := by decide +kernel
theorem dX6_dryOfTrial_33 : decode cX6_dryOfTrial 33 = .ok (.invokevirtual 123, 3) := by decide +kernel
theorem dX6_dryOfTrial_36 : decode cX6_dryOfTrial 36 = .ok (.aload_n 0, 1) := by decide +kernel
theorem dX6_dryOfTrial_37 : decode cX6_dryOfTrial 37 = .ok (.getfield 20, 3) := by decide +kernel
theorem dX6_dryOfTrial_40 : decode cX6_dryOfTrial 40 = .ok (.getfield 126, 3) := by decide +kernel
theorem dX6_dryOfTrial_43 : decode cX6_dryOfTrial 43 = .ok (.invokestatic 129, 3) := by decide +kernel
theorem dX6_dryOfTrial_46 : decode cX6_dryOfTrial 46 = .ok (.iload_n 3, 1) := by decide +kernel
theorem dX6_dryOfTrial_47 : decode cX6_dryOfTrial 47 = .ok (.isub, 1) := by decide +kernel
theorem dX6_dryOfTrial_48 : decode cX6_dryOfTrial 48 = .ok (.istore 4, 2) := by decide +kernel
theorem dX6_dryOfTrial_50 : decode cX6_dryOfTrial 50 = .ok (.iinc 5 1, 3) := by decide +kernel
theorem dX6_dryOfTrial_53 : decode cX6_dryOfTrial 53 = .ok (.goto (-36), 3) := by decide +kernel
theorem dX6_dryOfTrial_56 : decode cX6_dryOfTrial 56 = .ok (.iload 4, 2) := by decide +kernel
theorem dX6_dryOfTrial_58 : decode cX6_dryOfTrial 58 = .ok (.ireturn, 1) := by decide +kernel
set_option maxRecDepth 20000 in
theorem ggX6_trialGoesBy_X1_passDay : GoodIn wsX6_trialGoesBy wsX1_passDay := goodIn_r _ [9, 10, 11, 12, 13, 14, 15, 16, 17, 18, 19, 20, 21, 22, 23, 8, 24, 25, 26, 27, 28, 29, 30, 31, 32, 33, 34, 35, 36, 37, 38, 39, 40, 41, 42, 43, 44, 45, 46, 47, 48, 49, 50, 51, 52, 53, 54, 55, 56, 68, 69, 70, 71, 72, 73, 74, 75, 76, 77, 78, 79] rfl (by decide +kernel)
set_option maxRecDepth 20000 in
theorem gX6_trialGoesBy_X1_passDay : GoodIn wsX6_trialGoesBy (wsV RX6 123 RX1 yX1_passDay wsX1_passDay) := goodIn_app (goodIn_of _ (by decide +kernel)) ggX6_trialGoesBy_X1_passDay
theorem dX6_trialGoesBy_0 : decode cX6_trialGoesBy 0 = .ok (.iconst 0, 1) := by decide +kernel
theorem dX6_trialGoesBy_1 : decode cX6_trialGoesBy 1 = .ok (.istore_n 3, 1) := by decide +kernel
theorem dX6_trialGoesBy_2 : decode cX6_trialGoesBy 2 = .ok (.iload_n 3, 1) := by decide +kernel
theorem dX6_trialGoesBy_3 : decode cX6_trialGoesBy 3 = .ok (.aload_n 1, 1) := by decide +kernel
theorem dX6_trialGoesBy_4 : decode cX6_trialGoesBy 4 = .ok (.getfield 206, 3) := by decide +kernel
theorem dX6_trialGoesBy_7 : decode cX6_trialGoesBy 7 = .ok (.if_icmp .ge 38, 3) := by decide +kernel
theorem dX6_trialGoesBy_10 : decode cX6_trialGoesBy 10 = .ok (.aload_n 1, 1) := by decide +kernel
theorem dX6_trialGoesBy_11 : decode cX6_trialGoesBy 11 = .ok (.getfield 213, 3) := by decide +kernel
theorem dX6_trialGoesBy_14 : decode cX6_trialGoesBy 14 = .ok (.iload_n 3, 1) := by decide +kernel
theorem dX6_trialGoesBy_15 : decode cX6_trialGoesBy 15 = .ok (.laload, 1) := by decide +kernel
theorem dX6_trialGoesBy_16 : decode cX6_trialGoesBy 16 = .ok (.aload_n 0, 1) := by decide +kernel
theorem dX6_trialGoesBy_17 : decode cX6_trialGoesBy 17 = .ok (.getfield 20, 3) := by decide +kernel
theorem dX6_trialGoesBy_20 : decode cX6_trialGoesBy 20 = .ok (.getfield 133, 3) := by decide +kernel
theorem dX6_trialGoesBy_23 : decode cX6_trialGoesBy 23 = .ok (.iload_n 2, 1) := by decide +kernel
theorem dX6_trialGoesBy_24 : decode cX6_trialGoesBy 24 = .ok (.iaload, 1) := by decide +kernel
theorem dX6_trialGoesBy_25 : decode cX6_trialGoesBy 25 = .ok (.i2l, 1) := by decide +kernel
theorem dX6_trialGoesBy_26 : decode cX6_trialGoesBy 26 = .ok (.lcmp, 1) := by decide +kernel
theorem dX6_trialGoesBy_27 : decode cX6_trialGoesBy 27 = .ok (.ifCond .eq 5, 3) := by decide +kernel
theorem dX6_trialGoesBy_30 : decode cX6_trialGoesBy 30 = .ok (.iconst 0, 1) := by decide +kernel
theorem dX6_trialGoesBy_31 : decode cX6_trialGoesBy 31 = .ok (.ireturn, 1) := by decide +kernel
theorem dX6_trialGoesBy_32 : decode cX6_trialGoesBy 32 = .ok (.aload_n 0, 1) := by decide +kernel
theorem dX6_trialGoesBy_33 : decode cX6_trialGoesBy 33 = .ok (.getfield 20, 3) := by decide +kernel
theorem dX6_trialGoesBy_36 : decode cX6_trialGoesBy 36 = .ok (.invokevirtual 123, 3) := by decide +kernel
theorem dX6_trialGoesBy_39 : decode cX6_trialGoesBy 39 = .ok (.iinc 3 1, 3) := by decide +kernel
theorem dX6_trialGoesBy_42 : decode cX6_trialGoesBy 42 = .ok (.goto (-40), 3) := by decide +kernel
theorem dX6_trialGoesBy_45 : decode cX6_trialGoesBy 45 = .ok (.iconst 1, 1) := by decide +kernel
theorem dX6_trialGoesBy_46 : decode cX6_trialGoesBy 46 = .ok (.ireturn, 1) := by decide +kernel
set_option maxRecDepth 20000 in
theorem ggX7_init_X7_field : GoodIn wsX7_init wsX7_field := goodIn_r _ [20] rfl (by decide +kernel)
set_option maxRecDepth 20000 in
theorem gX7_init_X7_field : GoodIn wsX7_init (va_wsS RX7 44 yX7_field wsX7_field) := goodIn_app (goodIn_of _ (by decide +kernel)) ggX7_init_X7_field
theorem dX7_init_0 : decode cX7_init 0 = .ok (.aload_n 0, 1) := by decide +kernel
theorem dX7_init_1 : decode cX7_init 1 = .ok (.invokespecial 1, 3) := by decide +kernel
theorem dX7_init_4 : decode cX7_init 4 = .ok (.aload_n 0, 1) := by decide +kernel
theorem dX7_init_5 : decode cX7_init 5 = .ok (.bipush 53, 2) := by decide +kernel
theorem dX7_init_7 : decode cX7_init 7 = .ok (.newarray .int, 2) := by decide +kernel
theorem dX7_init_9 : decode cX7_init 9 = .ok (.putfield 7, 3) := by decide +kernel
theorem dX7_init_12 : decode cX7_init 12 = .ok (.aload_n 0, 1) := by decide +kernel
theorem dX7_init_13 : decode cX7_init 13 = .ok (.bipush 53, 2) := by decide +kernel
theorem dX7_init_15 : decode cX7_init 15 = .ok (.newarray .int, 2) := by decide +kernel
theorem dX7_init_17 : decode cX7_init 17 = .ok (.putfield 13, 3) := by decide +kernel
theorem dX7_init_20 : decode cX7_init 20 = .ok (.aload_n 0, 1) := by decide +kernel
theorem dX7_init_21 : decode cX7_init 21 = .ok (.bipush 53, 2) := by decide +kernel
theorem dX7_init_23 : decode cX7_init 23 = .ok (.newarray .int, 2) := by decide +kernel
theorem dX7_init_25 : decode cX7_init 25 = .ok (.putfield 16, 3) := by decide +kernel
theorem dX7_init_28 : decode cX7_init 28 = .ok (.aload_n 0, 1) := by decide +kernel
theorem dX7_init_29 : decode cX7_init 29 = .ok (.bipush 53, 2) := by decide +kernel
theorem dX7_init_31 : decode cX7_init 31 = .ok (.newarray .int, 2) := by decide +kernel
theorem dX7_init_33 : decode cX7_init 33 = .ok (.putfield 19, 3) := by decide +kernel
theorem dX7_init_36 : decode cX7_init 36 = .ok (.aload_n 0, 1) := by decide +kernel
theorem dX7_init_37 : decode cX7_init 37 = .ok (.bipush 7, 2) := by decide +kernel
theorem dX7_init_39 : decode cX7_init 39 = .ok (.newarray .int, 2) := by decide +kernel
theorem dX7_init_41 : decode cX7_init 41 = .ok (.putfield 22, 3) := by decide +kernel
theorem dX7_init_44 : decode cX7_init 44 = .ok (.aload_n 0, 1) := by decide +kernel
theorem dX7_init_45 : decode cX7_init 45 = .ok (.iconst 4, 1) := by decide +kernel
theorem dX7_init_46 : decode cX7_init 46 = .ok (.newarray .int, 2) := by decide +kernel
theorem dX7_init_48 : decode cX7_init 48 = .ok (.putfield 25, 3) := by decide +kernel
theorem dX7_init_51 : decode cX7_init 51 = .ok (.aload_n 0, 1) := by decide +kernel
theorem dX7_init_52 : decode cX7_init 52 = .ok (.bipush 120, 2) := by decide +kernel
theorem dX7_init_54 : decode cX7_init 54 = .ok (.newarray .int, 2) := by decide +kernel
theorem dX7_init_56 : decode cX7_init 56 = .ok (.putfield 28, 3) := by decide +kernel
theorem dX7_init_59 : decode cX7_init 59 = .ok (.aload_n 0, 1) := by decide +kernel
theorem dX7_init_60 : decode cX7_init 60 = .ok (.iconst 4, 1) := by decide +kernel
theorem dX7_init_61 : decode cX7_init 61 = .ok (.newarray .int, 2) := by decide +kernel
theorem dX7_init_63 : decode cX7_init 63 = .ok (.putfield 31, 3) := by decide +kernel
theorem dX7_init_66 : decode cX7_init 66 = .ok (.aload_n 0, 1) := by decide +kernel
theorem dX7_init_67 : decode cX7_init 67 = .ok (.iconst 4, 1) := by decide +kernel
theorem dX7_init_68 : decode cX7_init 68 = .ok (.newarray .int, 2) := by decide +kernel
theorem dX7_init_70 : decode cX7_init 70 = .ok (.putfield 34, 3) := by decide +kernel
theorem dX7_init_73 : decode cX7_init 73 = .ok (.aload_n 0, 1) := by decide +kernel
theorem dX7_init_74 : decode cX7_init 74 = .ok (.sipush 160, 3) := by decide +kernel
theorem dX7_init_77 : decode cX7_init 77 = .ok (.newarray .long, 2) := by decide +kernel
theorem dX7_init_79 : decode cX7_init 79 = .ok (.putfield 37, 3) := by decide +kernel
theorem dX7_init_82 : decode cX7_init 82 = .ok (.aload_n 0, 1) := by decide +kernel
theorem dX7_init_83 : decode cX7_init 83 = .ok (.bipush 40, 2) := by decide +kernel
theorem dX7_init_85 : decode cX7_init 85 = .ok (.newarray .long, 2) := by decide +kernel
theorem dX7_init_87 : decode cX7_init 87 = .ok (.putfield 41, 3) := by decide +kernel
theorem dX7_init_90 : decode cX7_init 90 = .ok (.aload_n 0, 1) := by decide +kernel
theorem dX7_init_91 : decode cX7_init 91 = .ok (.getfield 7, 3) := by decide +kernel
theorem dX7_init_94 : decode cX7_init 94 = .ok (.iconst 2, 1) := by decide +kernel
theorem dX7_init_95 : decode cX7_init 95 = .ok (.bipush 100, 2) := by decide +kernel
theorem dX7_init_97 : decode cX7_init 97 = .ok (.iastore, 1) := by decide +kernel
theorem dX7_init_98 : decode cX7_init 98 = .ok (.aload_n 0, 1) := by decide +kernel
theorem dX7_init_99 : decode cX7_init 99 = .ok (.getfield 7, 3) := by decide +kernel
theorem dX7_init_102 : decode cX7_init 102 = .ok (.iconst 3, 1) := by decide +kernel
theorem dX7_init_103 : decode cX7_init 103 = .ok (.bipush 10, 2) := by decide +kernel
theorem dX7_init_105 : decode cX7_init 105 = .ok (.iastore, 1) := by decide +kernel
theorem dX7_init_106 : decode cX7_init 106 = .ok (.iconst 0, 1) := by decide +kernel
theorem dX7_init_107 : decode cX7_init 107 = .ok (.istore_n 1, 1) := by decide +kernel
theorem dX7_init_108 : decode cX7_init 108 = .ok (.iload_n 1, 1) := by decide +kernel
theorem dX7_init_109 : decode cX7_init 109 = .ok (.iconst 4, 1) := by decide +kernel
theorem dX7_init_110 : decode cX7_init 110 = .ok (.if_icmp .ge 42, 3) := by decide +kernel
theorem dX7_init_113 : decode cX7_init 113 = .ok (.aload_n 0, 1) := by decide +kernel
theorem dX7_init_114 : decode cX7_init 114 = .ok (.getfield 7, 3) := by decide +kernel
theorem dX7_init_117 : decode cX7_init 117 = .ok (.iload_n 1, 1) := by decide +kernel
theorem dX7_init_118 : decode cX7_init 118 = .ok (.iconst 0, 1) := by decide +kernel
theorem dX7_init_119 : decode cX7_init 119 = .ok (.invokestatic 44, 3) := by decide +kernel
theorem dX7_init_122 : decode cX7_init 122 = .ok (.iconst 3, 1) := by decide +kernel
theorem dX7_init_123 : decode cX7_init 123 = .ok (.iastore, 1) := by decide +kernel
theorem dX7_init_124 : decode cX7_init 124 = .ok (.aload_n 0, 1) := by decide +kernel
theorem dX7_init_125 : decode cX7_init 125 = .ok (.getfield 7, 3) := by decide +kernel
theorem dX7_init_128 : decode cX7_init 128 = .ok (.iload_n 1, 1) := by decide +kernel
theorem dX7_init_129 : decode cX7_init 129 = .ok (.iconst 1, 1) := by decide +kernel
theorem dX7_init_130 : decode cX7_init 130 = .ok (.invokestatic 44, 3) := by decide +kernel
theorem dX7_init_133 : decode cX7_init 133 = .ok (.iconst 5, 1) := by decide +kernel
theorem dX7_init_134 : decode cX7_init 134 = .ok (.iastore, 1) := by decide +kernel
theorem dX7_init_135 : decode cX7_init 135 = .ok (.aload_n 0, 1) := by decide +kernel
theorem dX7_init_136 : decode cX7_init 136 = .ok (.getfield 7, 3) := by decide +kernel
theorem dX7_init_139 : decode cX7_init 139 = .ok (.iload_n 1, 1) := by decide +kernel
theorem dX7_init_140 : decode cX7_init 140 = .ok (.iconst 3, 1) := by decide +kernel
theorem dX7_init_141 : decode cX7_init 141 = .ok (.invokestatic 44, 3) := by decide +kernel
theorem dX7_init_144 : decode cX7_init 144 = .ok (.iconst (-1), 1) := by decide +kernel
theorem dX7_init_145 : decode cX7_init 145 = .ok (.iastore, 1) := by decide +kernel
theorem dX7_init_146 : decode cX7_init 146 = .ok (.iinc 1 1, 3) := by decide +kernel
theorem dX7_init_149 : decode cX7_init 149 = .ok (.goto (-41), 3) := by decide +kernel
theorem dX7_init_152 : decode cX7_init 152 = .ok (.return_, 1) := by decide +kernel
theorem dX7_in_0 : decode cX7_in 0 = .ok (.lload_n 0, 1) := by decide +kernel
theorem dX7_in_1 : decode cX7_in 1 = .ok (.lload_n 2, 1) := by decide +kernel
theorem dX7_in_2 : decode cX7_in 2 = .ok (.lcmp, 1) := by decide +kernel
theorem dX7_in_3 : decode cX7_in 3 = .ok (.ifCond .lt 14, 3) := by decide +kernel
theorem dX7_in_6 : decode cX7_in 6 = .ok (.lload_n 0, 1) := by decide +kernel
theorem dX7_in_7 : decode cX7_in 7 = .ok (.lload 4, 2) := by decide +kernel
theorem dX7_in_9 : decode cX7_in 9 = .ok (.lcmp, 1) := by decide +kernel
theorem dX7_in_10 : decode cX7_in 10 = .ok (.ifCond .gt 7, 3) := by decide +kernel
theorem dX7_in_13 : decode cX7_in 13 = .ok (.iconst 1, 1) := by decide +kernel
theorem dX7_in_14 : decode cX7_in 14 = .ok (.goto 4, 3) := by decide +kernel
theorem dX7_in_17 : decode cX7_in 17 = .ok (.iconst 0, 1) := by decide +kernel
theorem dX7_in_18 : decode cX7_in 18 = .ok (.ireturn, 1) := by decide +kernel
theorem dX7_finds_0 : decode cX7_finds 0 = .ok (.aload_n 0, 1) := by decide +kernel
theorem dX7_finds_1 : decode cX7_finds 1 = .ok (.getfield 22, 3) := by decide +kernel
theorem dX7_finds_4 : decode cX7_finds 4 = .ok (.ldc 48, 2) := by decide +kernel
theorem dX7_finds_6 : decode cX7_finds 6 = .ok (.iload_n 1, 1) := by decide +kernel
theorem dX7_finds_7 : decode cX7_finds 7 = .ok (.isub, 1) := by decide +kernel
theorem dX7_finds_8 : decode cX7_finds 8 = .ok (.dup2, 1) := by decide +kernel
theorem dX7_finds_9 : decode cX7_finds 9 = .ok (.iaload, 1) := by decide +kernel
theorem dX7_finds_10 : decode cX7_finds 10 = .ok (.iconst 1, 1) := by decide +kernel
theorem dX7_finds_11 : decode cX7_finds 11 = .ok (.iadd, 1) := by decide +kernel
theorem dX7_finds_12 : decode cX7_finds 12 = .ok (.iastore, 1) := by decide +kernel
theorem dX7_finds_13 : decode cX7_finds 13 = .ok (.iload_n 1, 1) := by decide +kernel
theorem dX7_finds_14 : decode cX7_finds 14 = .ok (.ireturn, 1) := by decide +kernel
theorem dX7_saves_0 : decode cX7_saves 0 = .ok (.iconst 0, 1) := by decide +kernel
theorem dX7_saves_1 : decode cX7_saves 1 = .ok (.istore_n 1, 1) := by decide +kernel
theorem dX7_saves_2 : decode cX7_saves 2 = .ok (.iload_n 1, 1) := by decide +kernel
theorem dX7_saves_3 : decode cX7_saves 3 = .ok (.bipush 53, 2) := by decide +kernel
theorem dX7_saves_5 : decode cX7_saves 5 = .ok (.if_icmp .ge 21, 3) := by decide +kernel
theorem dX7_saves_8 : decode cX7_saves 8 = .ok (.aload_n 0, 1) := by decide +kernel
theorem dX7_saves_9 : decode cX7_saves 9 = .ok (.getfield 16, 3) := by decide +kernel
theorem dX7_saves_12 : decode cX7_saves 12 = .ok (.iload_n 1, 1) := by decide +kernel
theorem dX7_saves_13 : decode cX7_saves 13 = .ok (.aload_n 0, 1) := by decide +kernel
theorem dX7_saves_14 : decode cX7_saves 14 = .ok (.getfield 7, 3) := by decide +kernel
theorem dX7_saves_17 : decode cX7_saves 17 = .ok (.iload_n 1, 1) := by decide +kernel
theorem dX7_saves_18 : decode cX7_saves 18 = .ok (.iaload, 1) := by decide +kernel
theorem dX7_saves_19 : decode cX7_saves 19 = .ok (.iastore, 1) := by decide +kernel
theorem dX7_saves_20 : decode cX7_saves 20 = .ok (.iinc 1 1, 3) := by decide +kernel
theorem dX7_saves_23 : decode cX7_saves 23 = .ok (.goto (-21), 3) := by decide +kernel
theorem dX7_saves_26 : decode cX7_saves 26 = .ok (.return_, 1) := by decide +kernel
theorem dX7_putsBack_0 : decode cX7_putsBack 0 = .ok (.iconst 0, 1) := by decide +kernel
theorem dX7_putsBack_1 : decode cX7_putsBack 1 = .ok (.istore_n 1, 1) := by decide +kernel
theorem dX7_putsBack_2 : decode cX7_putsBack 2 = .ok (.iload_n 1, 1) := by decide +kernel
theorem dX7_putsBack_3 : decode cX7_putsBack 3 = .ok (.bipush 53, 2) := by decide +kernel
theorem dX7_putsBack_5 : decode cX7_putsBack 5 = .ok (.if_icmp .ge 21, 3) := by decide +kernel
theorem dX7_putsBack_8 : decode cX7_putsBack 8 = .ok (.aload_n 0, 1) := by decide +kernel
theorem dX7_putsBack_9 : decode cX7_putsBack 9 = .ok (.getfield 7, 3) := by decide +kernel
theorem dX7_putsBack_12 : decode cX7_putsBack 12 = .ok (.iload_n 1, 1) := by decide +kernel
theorem dX7_putsBack_13 : decode cX7_putsBack 13 = .ok (.aload_n 0, 1) := by decide +kernel
theorem dX7_putsBack_14 : decode cX7_putsBack 14 = .ok (.getfield 16, 3) := by decide +kernel
theorem dX7_putsBack_17 : decode cX7_putsBack 17 = .ok (.iload_n 1, 1) := by decide +kernel
theorem dX7_putsBack_18 : decode cX7_putsBack 18 = .ok (.iaload, 1) := by decide +kernel
theorem dX7_putsBack_19 : decode cX7_putsBack 19 = .ok (.iastore, 1) := by decide +kernel
theorem dX7_putsBack_20 : decode cX7_putsBack 20 = .ok (.iinc 1 1, 3) := by decide +kernel
theorem dX7_putsBack_23 : decode cX7_putsBack 23 = .ok (.goto (-21), 3) := by decide +kernel
theorem dX7_putsBack_26 : decode cX7_putsBack 26 = .ok (.return_, 1) := by decide +kernel
theorem dX7_laysAside_0 : decode cX7_laysAside 0 = .ok (.iconst 0, 1) := by decide +kernel
theorem dX7_laysAside_1 : decode cX7_laysAside 1 = .ok (.istore_n 1, 1) := by decide +kernel
theorem dX7_laysAside_2 : decode cX7_laysAside 2 = .ok (.iload_n 1, 1) := by decide +kernel
theorem dX7_laysAside_3 : decode cX7_laysAside 3 = .ok (.bipush 53, 2) := by decide +kernel
theorem dX7_laysAside_5 : decode cX7_laysAside 5 = .ok (.if_icmp .ge 21, 3) := by decide +kernel
theorem dX7_laysAside_8 : decode cX7_laysAside 8 = .ok (.aload_n 0, 1) := by decide +kernel
theorem dX7_laysAside_9 : decode cX7_laysAside 9 = .ok (.getfield 19, 3) := by decide +kernel
theorem dX7_laysAside_12 : decode cX7_laysAside 12 = .ok (.iload_n 1, 1) := by decide +kernel
theorem dX7_laysAside_13 : decode cX7_laysAside 13 = .ok (.aload_n 0, 1) := by decide +kernel
theorem dX7_laysAside_14 : decode cX7_laysAside 14 = .ok (.getfield 7, 3) := by decide +kernel
theorem dX7_laysAside_17 : decode cX7_laysAside 17 = .ok (.iload_n 1, 1) := by decide +kernel
theorem dX7_laysAside_18 : decode cX7_laysAside 18 = .ok (.iaload, 1) := by decide +kernel
theorem dX7_laysAside_19 : decode cX7_laysAside 19 = .ok (.iastore, 1) := by decide +kernel
theorem dX7_laysAside_20 : decode cX7_laysAside 20 = .ok (.iinc 1 1, 3) := by decide +kernel
theorem dX7_laysAside_23 : decode cX7_laysAside 23 = .ok (.goto (-21), 3) := by decide +kernel
theorem dX7_laysAside_26 : decode cX7_laysAside 26 = .ok (.return_, 1) := by decide +kernel
theorem dX7_takesBack_0 : decode cX7_takesBack 0 = .ok (.iconst 0, 1) := by decide +kernel
theorem dX7_takesBack_1 : decode cX7_takesBack 1 = .ok (.istore_n 2, 1) := by decide +kernel
theorem dX7_takesBack_2 : decode cX7_takesBack 2 = .ok (.iload_n 2, 1) := by decide +kernel
theorem dX7_takesBack_3 : decode cX7_takesBack 3 = .ok (.bipush 53, 2) := by decide +kernel
theorem dX7_takesBack_5 : decode cX7_takesBack 5 = .ok (.if_icmp .ge 21, 3) := by decide +kernel
theorem dX7_takesBack_8 : decode cX7_takesBack 8 = .ok (.aload_n 0, 1) := by decide +kernel
theorem dX7_takesBack_9 : decode cX7_takesBack 9 = .ok (.getfield 7, 3) := by decide +kernel
theorem dX7_takesBack_12 : decode cX7_takesBack 12 = .ok (.iload_n 2, 1) := by decide +kernel
theorem dX7_takesBack_13 : decode cX7_takesBack 13 = .ok (.aload_n 0, 1) := by decide +kernel
theorem dX7_takesBack_14 : decode cX7_takesBack 14 = .ok (.getfield 19, 3) := by decide +kernel
theorem dX7_takesBack_17 : decode cX7_takesBack 17 = .ok (.iload_n 2, 1) := by decide +kernel
theorem dX7_takesBack_18 : decode cX7_takesBack 18 = .ok (.iaload, 1) := by decide +kernel
theorem dX7_takesBack_19 : decode cX7_takesBack 19 = .ok (.iastore, 1) := by decide +kernel
theorem dX7_takesBack_20 : decode cX7_takesBack 20 = .ok (.iinc 2 1, 3) := by decide +kernel
theorem dX7_takesBack_23 : decode cX7_takesBack 23 = .ok (.goto (-21), 3) := by decide +kernel
theorem dX7_takesBack_26 : decode cX7_takesBack 26 = .ok (.iload_n 1, 1) := by decide +kernel
theorem dX7_takesBack_27 : decode cX7_takesBack 27 = .ok (.ireturn, 1) := by decide +kernel
theorem dX7_becomes_0 : decode cX7_becomes 0 = .ok (.aload_n 0, 1) := by decide +kernel
theorem dX7_becomes_1 : decode cX7_becomes 1 = .ok (.getfield 7, 3) := by decide +kernel
theorem dX7_becomes_4 : decode cX7_becomes 4 = .ok (.iload_n 1, 1) := by decide +kernel
theorem dX7_becomes_5 : decode cX7_becomes 5 = .ok (.iaload, 1) := by decide +kernel
theorem dX7_becomes_6 : decode cX7_becomes 6 = .ok (.istore_n 3, 1) := by decide +kernel
theorem dX7_becomes_7 : decode cX7_becomes 7 = .ok (.aload_n 0, 1) := by decide +kernel
theorem dX7_becomes_8 : decode cX7_becomes 8 = .ok (.getfield 7, 3) := by decide +kernel
theorem dX7_becomes_11 : decode cX7_becomes 11 = .ok (.iload_n 1, 1) := by decide +kernel
theorem dX7_becomes_12 : decode cX7_becomes 12 = .ok (.iload_n 2, 1) := by decide +kernel
theorem dX7_becomes_13 : decode cX7_becomes 13 = .ok (.iastore, 1) := by decide +kernel
theorem dX7_becomes_14 : decode cX7_becomes 14 = .ok (.iload_n 3, 1) := by decide +kernel
theorem dX7_becomes_15 : decode cX7_becomes 15 = .ok (.ireturn, 1) := by decide +kernel
set_option maxRecDepth 20000 in
theorem ggX7_isFarm_X7_in : GoodIn wsX7_isFarm wsX7_in := goodIn_r _ [5] rfl (by decide +kernel)
set_option maxRecDepth 20000 in
theorem gX7_isFarm_X7_in : GoodIn wsX7_isFarm (va_wsS RX7 51 yX7_in wsX7_in) := goodIn_app (goodIn_of _ (by decide +kernel)) ggX7_isFarm_X7_in
theorem dX7_isFarm_0 : decode cX7_isFarm 0 = .ok (.iload_n 0, 1) := by decide +kernel
theorem dX7_isFarm_1 : decode cX7_isFarm 1 = .ok (.i2l, 1) := by decide +kernel
theorem dX7_isFarm_2 : decode cX7_isFarm 2 = .ok (.lconst 0, 1) := by decide +kernel
theorem dX7_isFarm_3 : decode cX7_isFarm 3 = .ok (.ldc2_w 49, 3) := by decide +kernel
theorem dX7_isFarm_6 : decode cX7_isFarm 6 = .ok (.invokestatic 51, 3) := by decide +kernel
theorem dX7_isFarm_9 : decode cX7_isFarm 9 = .ok (.ireturn, 1) := by decide +kernel
set_option maxRecDepth 20000 in
theorem ggX7_isPerson_X7_in : GoodIn wsX7_isPerson wsX7_in := goodIn_r _ [5] rfl (by decide +kernel)
set_option maxRecDepth 20000 in
theorem gX7_isPerson_X7_in : GoodIn wsX7_isPerson (va_wsS RX7 51 yX7_in wsX7_in) := goodIn_app (goodIn_of _ (by decide +kernel)) ggX7_isPerson_X7_in
theorem dX7_isPerson_0 : decode cX7_isPerson 0 = .ok (.iload_n 1, 1) := by decide +kernel
theorem dX7_isPerson_1 : decode cX7_isPerson 1 = .ok (.i2l, 1) := by decide +kernel
theorem dX7_isPerson_2 : decode cX7_isPerson 2 = .ok (.lconst 0, 1) := by decide +kernel
theorem dX7_isPerson_3 : decode cX7_isPerson 3 = .ok (.aload_n 0, 1) := by decide +kernel
theorem dX7_isPerson_4 : decode cX7_isPerson 4 = .ok (.getfield 7, 3) := by decide +kernel
theorem dX7_isPerson_7 : decode cX7_isPerson 7 = .ok (.iconst 0, 1) := by decide +kernel
theorem dX7_isPerson_8 : decode cX7_isPerson 8 = .ok (.iaload, 1) := by decide +kernel
theorem dX7_isPerson_9 : decode cX7_isPerson 9 = .ok (.iconst 1, 1) := by decide +kernel
theorem dX7_isPerson_10 : decode cX7_isPerson 10 = .ok (.isub, 1) := by decide +kernel
theorem dX7_isPerson_11 : decode cX7_isPerson 11 = .ok (.i2l, 1) := by decide +kernel
theorem dX7_isPerson_12 : decode cX7_isPerson 12 = .ok (.invokestatic 51, 3) := by decide +kernel
theorem dX7_isPerson_15 : decode cX7_isPerson 15 = .ok (.ireturn, 1) := by decide +kernel
set_option maxRecDepth 20000 in
theorem ggX7_isKind_X7_in : GoodIn wsX7_isKind wsX7_in := goodIn_r _ [5] rfl (by decide +kernel)
set_option maxRecDepth 20000 in
theorem gX7_isKind_X7_in : GoodIn wsX7_isKind (va_wsS RX7 51 yX7_in wsX7_in) := goodIn_app (goodIn_of _ (by decide +kernel)) ggX7_isKind_X7_in
theorem dX7_isKind_0 : decode cX7_isKind 0 = .ok (.iload_n 0, 1) := by decide +kernel
theorem dX7_isKind_1 : decode cX7_isKind 1 = .ok (.i2l, 1) := by decide +kernel
theorem dX7_isKind_2 : decode cX7_isKind 2 = .ok (.lconst 0, 1) := by decide +kernel
theorem dX7_isKind_3 : decode cX7_isKind 3 = .ok (.ldc2_w 55, 3) := by decide +kernel
theorem dX7_isKind_6 : decode cX7_isKind 6 = .ok (.invokestatic 51, 3) := by decide +kernel
theorem dX7_isKind_9 : decode cX7_isKind 9 = .ok (.ireturn, 1) := by decide +kernel
theorem dX7_field_0 : decode cX7_field 0 = .ok (.iconst 5, 1) := by decide +kernel
theorem dX7_field_1 : decode cX7_field 1 = .ok (.iconst 4, 1) := by decide +kernel
theorem dX7_field_2 : decode cX7_field 2 = .ok (.iload_n 0, 1) := by decide +kernel
theorem dX7_field_3 : decode cX7_field 3 = .ok (.imul, 1) := by decide +kernel
theorem dX7_field_4 : decode cX7_field 4 = .ok (.iadd, 1) := by decide +kernel
theorem dX7_field_5 : decode cX7_field 5 = .ok (.iload_n 1, 1) := by decide +kernel
theorem dX7_field_6 : decode cX7_field 6 = .ok (.iadd, 1) := by decide +kernel
theorem dX7_field_7 : decode cX7_field 7 = .ok (.ireturn, 1) := by decide +kernel
theorem dX7_spot_0 : decode cX7_spot 0 = .ok (.bipush 21, 2) := by decide +kernel
theorem dX7_spot_2 : decode cX7_spot 2 = .ok (.iconst 4, 1) := by decide +kernel
theorem dX7_spot_3 : decode cX7_spot 3 = .ok (.iload_n 0, 1) := by decide +kernel
theorem dX7_spot_4 : decode cX7_spot 4 = .ok (.imul, 1) := by decide +kernel
theorem dX7_spot_5 : decode cX7_spot 5 = .ok (.iadd, 1) := by decide +kernel
theorem dX7_spot_6 : decode cX7_spot 6 = .ok (.iload_n 1, 1) := by decide +kernel
theorem dX7_spot_7 : decode cX7_spot 7 = .ok (.iadd, 1) := by decide +kernel
theorem dX7_spot_8 : decode cX7_spot 8 = .ok (.ireturn, 1) := by decide +kernel
set_option maxRecDepth 20000 in
theorem ggX7_its_X7_spot : GoodIn wsX7_its wsX7_spot := goodIn_r _ [5] rfl (by decide +kernel)
set_option maxRecDepth 20000 in
theorem gX7_its_X7_spot : GoodIn wsX7_its (va_wsS RX7 57 yX7_spot wsX7_spot) := goodIn_app (goodIn_of _ (by decide +kernel)) ggX7_its_X7_spot
theorem dX7_its_0 : decode cX7_its 0 = .ok (.aload_n 0, 1) := by decide +kernel
theorem dX7_its_1 : decode cX7_its 1 = .ok (.getfield 7, 3) := by decide +kernel
theorem dX7_its_4 : decode cX7_its 4 = .ok (.iload_n 1, 1) := by decide +kernel
theorem dX7_its_5 : decode cX7_its 5 = .ok (.iload_n 2, 1) := by decide +kernel
theorem dX7_its_6 : decode cX7_its 6 = .ok (.invokestatic 57, 3) := by decide +kernel
theorem dX7_its_9 : decode cX7_its 9 = .ok (.iaload, 1) := by decide +kernel
theorem dX7_its_10 : decode cX7_its 10 = .ok (.ireturn, 1) := by decide +kernel
set_option maxRecDepth 20000 in
theorem ggX7_isFarms_X7_in : GoodIn wsX7_isFarms wsX7_in := goodIn_r _ [6] rfl (by decide +kernel)
set_option maxRecDepth 20000 in
theorem gX7_isFarms_X7_in : GoodIn wsX7_isFarms (va_wsS RX7 51 yX7_in wsX7_in) := goodIn_app (goodIn_of _ (by decide +kernel)) ggX7_isFarms_X7_in
set_option maxRecDepth 20000 in
theorem ggX7_isFarms_X7_isPerson : GoodIn wsX7_isFarms wsX7_isPerson := goodIn_r _ [10, 11, 3, 4, 5, 6, 12, 13, 14, 15, 16, 17, 18, 19, 20, 21, 22, 23, 24, 25, 26, 27, 28, 29] rfl (by decide +kernel)
set_option maxRecDepth 20000 in
theorem gX7_isFarms_X7_isPerson : GoodIn wsX7_isFarms (wsV RX7 64 RX7 yX7_isPerson wsX7_isPerson) := goodIn_app (goodIn_of _ (by decide +kernel)) ggX7_isFarms_X7_isPerson
theorem dX7_isFarms_0 : decode cX7_isFarms 0 = .ok (.iload_n 1, 1) := by decide +kernel
theorem dX7_isFarms_1 : decode cX7_isFarms 1 = .ok (.tableswitch 70 0 3 #[31, 41, 41, 51], 31) := by decide +kernel
theorem dX7_isFarms_32 : decode cX7_isFarms 32 = .ok (.iload_n 2, 1) := by decide +kernel
theorem dX7_isFarms_33 : decode cX7_isFarms 33 = .ok (.i2l, 1) := by decide +kernel
theorem dX7_isFarms_34 : decode cX7_isFarms 34 = .ok (.lconst 0, 1) := by decide +kernel
theorem dX7_isFarms_35 : decode cX7_isFarms 35 = .ok (.ldc2_w 60, 3) := by decide +kernel
theorem dX7_isFarms_38 : decode cX7_isFarms 38 = .ok (.invokestatic 51, 3) := by decide +kernel
theorem dX7_isFarms_41 : decode cX7_isFarms 41 = .ok (.ireturn, 1) := by decide +kernel
theorem dX7_isFarms_42 : decode cX7_isFarms 42 = .ok (.iload_n 2, 1) := by decide +kernel
theorem dX7_isFarms_43 : decode cX7_isFarms 43 = .ok (.i2l, 1) := by decide +kernel
theorem dX7_isFarms_44 : decode cX7_isFarms 44 = .ok (.lconst 0, 1) := by decide +kernel
theorem dX7_isFarms_45 : decode cX7_isFarms 45 = .ok (.ldc2_w 62, 3) := by decide +kernel
theorem dX7_isFarms_48 : decode cX7_isFarms 48 = .ok (.invokestatic 51, 3) := by decide +kernel
theorem dX7_isFarms_51 : decode cX7_isFarms 51 = .ok (.ireturn, 1) := by decide +kernel
theorem dX7_isFarms_52 : decode cX7_isFarms 52 = .ok (.iload_n 2, 1) := by decide +kernel
theorem dX7_isFarms_53 : decode cX7_isFarms 53 = .ok (.iconst (-1), 1) := by decide +kernel
theorem dX7_isFarms_54 : decode cX7_isFarms 54 = .ok (.if_icmp .eq 11, 3) := by decide +kernel
theorem dX7_isFarms_57 : decode cX7_isFarms 57 = .ok (.aload_n 0, 1) := by decide +kernel
theorem dX7_isFarms_58 : decode cX7_isFarms 58 = .ok (.iload_n 2, 1) := by decide +kernel
theorem dX7_isFarms_59 : decode cX7_isFarms 59 = .ok (.invokevirtual 64, 3) := by decide +kernel
theorem dX7_isFarms_62 : decode cX7_isFarms 62 = .ok (.ifCond .eq 7, 3) := by decide +kernel
theorem dX7_isFarms_65 : decode cX7_isFarms 65 = .ok (.iconst 1, 1) := by decide +kernel
theorem dX7_isFarms_66 : decode cX7_isFarms 66 = .ok (.goto 4, 3) := by decide +kernel
theorem dX7_isFarms_69 : decode cX7_isFarms 69 = .ok (.iconst 0, 1) := by decide +kernel
theorem dX7_isFarms_70 : decode cX7_isFarms 70 = .ok (.ireturn, 1) := by decide +kernel
theorem dX7_isFarms_71 : decode cX7_isFarms 71 = .ok (.iconst 0, 1) := by decide +kernel
theorem dX7_isFarms_72 : decode cX7_isFarms 72 = .ok (.ireturn, 1) := by decide +kernel
set_option maxRecDepth 20000 in
theorem ggX7_farm_X7_isFarm : GoodIn wsX7_farm wsX7_isFarm := goodIn_r _ [5, 6, 7, 8, 4, 9] rfl (by decide +kernel)
set_option maxRecDepth 20000 in
theorem gX7_farm_X7_isFarm : GoodIn wsX7_farm (va_wsS RX7 68 yX7_isFarm wsX7_isFarm) := goodIn_app (goodIn_of _ (by decide +kernel)) ggX7_farm_X7_isFarm
set_option maxRecDepth 20000 in
theorem ggX7_farm_X7_isFarms : GoodIn wsX7_farm wsX7_isFarms := goodIn_r _ [13, 14, 15, 7, 8, 4, 9, 16, 17, 18, 19, 20, 33, 34, 35, 36, 37, 38, 39, 40, 41, 42, 43, 44, 45, 46, 47, 48, 49, 50] rfl (by decide +kernel)
set_option maxRecDepth 20000 in
theorem gX7_farm_X7_isFarms : GoodIn wsX7_farm (wsV RX7 71 RX7 yX7_isFarms wsX7_isFarms) := goodIn_app (goodIn_of _ (by decide +kernel)) ggX7_farm_X7_isFarms
set_option maxRecDepth 20000 in
theorem ggX7_farm_X7_field : GoodIn wsX7_farm wsX7_field := goodIn_r _ [23] rfl (by decide +kernel)
set_option maxRecDepth 20000 in
theorem gX7_farm_X7_field : GoodIn wsX7_farm (va_wsS RX7 44 yX7_field wsX7_field) := goodIn_app (goodIn_of _ (by decide +kernel)) ggX7_farm_X7_field
set_option maxRecDepth 20000 in
theorem ggX7_farm_X7_becomes : GoodIn wsX7_farm wsX7_becomes := goodIn_r _ [27, 20, 33, 34, 35, 36, 37, 38, 39, 40, 41, 42, 43, 44, 45, 46, 47, 48, 49, 50] rfl (by decide +kernel)
set_option maxRecDepth 20000 in
theorem gX7_farm_X7_becomes : GoodIn wsX7_farm (wsV RX7 75 RX7 yX7_becomes wsX7_becomes) := goodIn_app (goodIn_of _ (by decide +kernel)) ggX7_farm_X7_becomes
set_option maxRecDepth 20000 in
theorem ggX7_farm_X7_finds : GoodIn wsX7_farm wsX7_finds := goodIn_r _ [31, 32, 1, 33, 34, 35, 36, 37, 38, 39, 40, 41, 42, 43, 44, 45, 46, 47, 48, 49, 50] rfl (by decide +kernel)
set_option maxRecDepth 20000 in
theorem gX7_farm_X7_finds : GoodIn wsX7_farm (wsV RX7 78 RX7 yX7_finds wsX7_finds) := goodIn_app (goodIn_of _ (by decide +kernel)) ggX7_farm_X7_finds
theorem dX7_farm_0 : decode cX7_farm 0 = .ok (.iload_n 1, 1) := by decide +kernel
theorem dX7_farm_1 : decode cX7_farm 1 = .ok (.invokestatic 68, 3) := by decide +kernel
theorem dX7_farm_4 : decode cX7_farm 4 = .ok (.ifCond .eq 25, 3) := by decide +kernel
theorem dX7_farm_7 : decode cX7_farm 7 = .ok (.aload_n 0, 1) := by decide +kernel
theorem dX7_farm_8 : decode cX7_farm 8 = .ok (.iload_n 2, 1) := by decide +kernel
theorem dX7_farm_9 : decode cX7_farm 9 = .ok (.iload_n 3, 1) := by decide +kernel
theorem dX7_farm_10 : decode cX7_farm 10 = .ok (.invokevirtual 71, 3) := by decide +kernel
theorem dX7_farm_13 : decode cX7_farm 13 = .ok (.ifCond .eq 16, 3) := by decide +kernel
theorem dX7_farm_16 : decode cX7_farm 16 = .ok (.aload_n 0, 1) := by decide +kernel
theorem dX7_farm_17 : decode cX7_farm 17 = .ok (.iload_n 1, 1) := by decide +kernel
theorem dX7_farm_18 : decode cX7_farm 18 = .ok (.iload_n 2, 1) := by decide +kernel
theorem dX7_farm_19 : decode cX7_farm 19 = .ok (.invokestatic 44, 3) := by decide +kernel
theorem dX7_farm_22 : decode cX7_farm 22 = .ok (.iload_n 3, 1) := by decide +kernel
theorem dX7_farm_23 : decode cX7_farm 23 = .ok (.invokevirtual 75, 3) := by decide +kernel
theorem dX7_farm_26 : decode cX7_farm 26 = .ok (.goto 9, 3) := by decide +kernel
theorem dX7_farm_29 : decode cX7_farm 29 = .ok (.aload_n 0, 1) := by decide +kernel
theorem dX7_farm_30 : decode cX7_farm 30 = .ok (.ldc 48, 2) := by decide +kernel
theorem dX7_farm_32 : decode cX7_farm 32 = .ok (.invokevirtual 78, 3) := by decide +kernel
theorem dX7_farm_35 : decode cX7_farm 35 = .ok (.ireturn, 1) := by decide +kernel
set_option maxRecDepth 20000 in
theorem ggX7_farmOf_X7_isFarm : GoodIn wsX7_farmOf wsX7_isFarm := goodIn_r _ [7, 1, 8, 9, 6, 10] rfl (by decide +kernel)
set_option maxRecDepth 20000 in
theorem gX7_farmOf_X7_isFarm : GoodIn wsX7_farmOf (va_wsS RX7 68 yX7_isFarm wsX7_isFarm) := goodIn_app (goodIn_of _ (by decide +kernel)) ggX7_farmOf_X7_isFarm
set_option maxRecDepth 20000 in
theorem ggX7_farmOf_X7_in : GoodIn wsX7_farmOf wsX7_in := goodIn_r _ [10] rfl (by decide +kernel)
set_option maxRecDepth 20000 in
theorem gX7_farmOf_X7_in : GoodIn wsX7_farmOf (va_wsS RX7 51 yX7_in wsX7_in) := goodIn_app (goodIn_of _ (by decide +kernel)) ggX7_farmOf_X7_in
set_option maxRecDepth 20000 in
theorem ggX7_farmOf_X7_field : GoodIn wsX7_farmOf wsX7_field := goodIn_r _ [13] rfl (by decide +kernel)
set_option maxRecDepth 20000 in
theorem gX7_farmOf_X7_field : GoodIn wsX7_farmOf (va_wsS RX7 44 yX7_field wsX7_field) := goodIn_app (goodIn_of _ (by decide +kernel)) ggX7_farmOf_X7_field
set_option maxRecDepth 20000 in
theorem ggX7_farmOf_X7_finds : GoodIn wsX7_farmOf wsX7_finds := goodIn_r _ [17, 18, 3, 19, 20, 21, 22, 23, 24, 25, 26, 27, 28, 29, 30, 31, 32, 33, 34, 35, 36] rfl (by decide +kernel)
set_option maxRecDepth 20000 in
theorem gX7_farmOf_X7_finds : GoodIn wsX7_farmOf (wsV RX7 78 RX7 yX7_finds wsX7_finds) := goodIn_app (goodIn_of _ (by decide +kernel)) ggX7_farmOf_X7_finds
theorem dX7_farmOf_0 : decode cX7_farmOf 0 = .ok (.iload_n 1, 1) := by decide +kernel
theorem dX7_farmOf_1 : decode cX7_farmOf 1 = .ok (.invokestatic 68, 3) := by decide +kernel
theorem dX7_farmOf_4 : decode cX7_farmOf 4 = .ok (.ifCond .eq 28, 3) := by decide +kernel
theorem dX7_farmOf_7 : decode cX7_farmOf 7 = .ok (.iload_n 2, 1) := by decide +kernel
theorem dX7_farmOf_8 : decode cX7_farmOf 8 = .ok (.i2l, 1) := by decide +kernel
theorem dX7_farmOf_9 : decode cX7_farmOf 9 = .ok (.lconst 0, 1) := by decide +kernel
theorem dX7_farmOf_10 : decode cX7_farmOf 10 = .ok (.ldc2_w 49, 3) := by decide +kernel
theorem dX7_farmOf_13 : decode cX7_farmOf 13 = .ok (.invokestatic 51, 3) := by decide +kernel
theorem dX7_farmOf_16 : decode cX7_farmOf 16 = .ok (.ifCond .eq 16, 3) := by decide +kernel
theorem dX7_farmOf_19 : decode cX7_farmOf 19 = .ok (.aload_n 0, 1) := by decide +kernel
theorem dX7_farmOf_20 : decode cX7_farmOf 20 = .ok (.getfield 7, 3) := by decide +kernel
theorem dX7_farmOf_23 : decode cX7_farmOf 23 = .ok (.iload_n 1, 1) := by decide +kernel
theorem dX7_farmOf_24 : decode cX7_farmOf 24 = .ok (.iload_n 2, 1) := by decide +kernel
theorem dX7_farmOf_25 : decode cX7_farmOf 25 = .ok (.invokestatic 44, 3) := by decide +kernel
theorem dX7_farmOf_28 : decode cX7_farmOf 28 = .ok (.iaload, 1) := by decide +kernel
theorem dX7_farmOf_29 : decode cX7_farmOf 29 = .ok (.goto 9, 3) := by decide +kernel
theorem dX7_farmOf_32 : decode cX7_farmOf 32 = .ok (.aload_n 0, 1) := by decide +kernel
theorem dX7_farmOf_33 : decode cX7_farmOf 33 = .ok (.ldc 48, 2) := by decide +kernel
theorem dX7_farmOf_35 : decode cX7_farmOf 35 = .ok (.invokevirtual 78, 3) := by decide +kernel
theorem dX7_farmOf_38 : decode cX7_farmOf 38 = .ok (.ireturn, 1) := by decide +kernel
set_option maxRecDepth 20000 in
theorem ggX7_water_X7_in : GoodIn wsX7_water wsX7_in := goodIn_r _ [9] rfl (by decide +kernel)
set_option maxRecDepth 20000 in
theorem gX7_water_X7_in : GoodIn wsX7_water (va_wsS RX7 51 yX7_in wsX7_in) := goodIn_app (goodIn_of _ (by decide +kernel)) ggX7_water_X7_in
set_option maxRecDepth 20000 in
theorem ggX7_water_X7_becomes : GoodIn wsX7_water wsX7_becomes := goodIn_r _ [13, 14, 20, 21, 22, 23, 24, 25, 26, 27, 28, 29, 30, 31, 32, 33, 34, 35, 36, 37] rfl (by decide +kernel)
set_option maxRecDepth 20000 in
theorem gX7_water_X7_becomes : GoodIn wsX7_water (wsV RX7 75 RX7 yX7_becomes wsX7_becomes) := goodIn_app (goodIn_of _ (by decide +kernel)) ggX7_water_X7_becomes
set_option maxRecDepth 20000 in
theorem ggX7_water_X7_finds : GoodIn wsX7_water wsX7_finds := goodIn_r _ [18, 19, 5, 20, 21, 22, 23, 24, 25, 26, 27, 28, 29, 30, 31, 32, 33, 34, 35, 36, 37] rfl (by decide +kernel)
set_option maxRecDepth 20000 in
theorem gX7_water_X7_finds : GoodIn wsX7_water (wsV RX7 78 RX7 yX7_finds wsX7_finds) := goodIn_app (goodIn_of _ (by decide +kernel)) ggX7_water_X7_finds
theorem dX7_water_0 : decode cX7_water 0 = .ok (.iload_n 1, 1) := by decide +kernel
theorem dX7_water_1 : decode cX7_water 1 = .ok (.i2l, 1) := by decide +kernel
theorem dX7_water_2 : decode cX7_water 2 = .ok (.lconst 0, 1) := by decide +kernel
theorem dX7_water_3 : decode cX7_water 3 = .ok (.ldc2_w 82, 3) := by decide +kernel
theorem dX7_water_6 : decode cX7_water 6 = .ok (.invokestatic 51, 3) := by decide +kernel
theorem dX7_water_9 : decode cX7_water 9 = .ok (.ifCond .eq 40, 3) := by decide +kernel
theorem dX7_water_12 : decode cX7_water 12 = .ok (.iload_n 2, 1) := by decide +kernel
theorem dX7_water_13 : decode cX7_water 13 = .ok (.i2l, 1) := by decide +kernel
theorem dX7_water_14 : decode cX7_water 14 = .ok (.lconst 0, 1) := by decide +kernel
theorem dX7_water_15 : decode cX7_water 15 = .ok (.iload_n 1, 1) := by decide +kernel
theorem dX7_water_16 : decode cX7_water 16 = .ok (.ifCond .ne 9, 3) := by decide +kernel
theorem dX7_water_19 : decode cX7_water 19 = .ok (.ldc2_w 62, 3) := by decide +kernel
theorem dX7_water_22 : decode cX7_water 22 = .ok (.goto 17, 3) := by decide +kernel
theorem dX7_water_25 : decode cX7_water 25 = .ok (.iload_n 1, 1) := by decide +kernel
theorem dX7_water_26 : decode cX7_water 26 = .ok (.iconst 1, 1) := by decide +kernel
theorem dX7_water_27 : decode cX7_water 27 = .ok (.if_icmp .ne 9, 3) := by decide +kernel
theorem dX7_water_30 : decode cX7_water 30 = .ok (.ldc2_w 84, 3) := by decide +kernel
theorem dX7_water_33 : decode cX7_water 33 = .ok (.goto 6, 3) := by decide +kernel
theorem dX7_water_36 : decode cX7_water 36 = .ok (.ldc2_w 55, 3) := by decide +kernel
theorem dX7_water_39 : decode cX7_water 39 = .ok (.invokestatic 51, 3) := by decide +kernel
theorem dX7_water_42 : decode cX7_water 42 = .ok (.ifCond .eq 7, 3) := by decide +kernel
theorem dX7_water_45 : decode cX7_water 45 = .ok (.iconst 1, 1) := by decide +kernel
theorem dX7_water_46 : decode cX7_water 46 = .ok (.goto 4, 3) := by decide +kernel
theorem dX7_water_49 : decode cX7_water 49 = .ok (.iconst 0, 1) := by decide +kernel
theorem dX7_water_50 : decode cX7_water 50 = .ok (.istore_n 3, 1) := by decide +kernel
theorem dX7_water_51 : decode cX7_water 51 = .ok (.iload_n 3, 1) := by decide +kernel
theorem dX7_water_52 : decode cX7_water 52 = .ok (.ifCond .eq 14, 3) := by decide +kernel
theorem dX7_water_55 : decode cX7_water 55 = .ok (.aload_n 0, 1) := by decide +kernel
theorem dX7_water_56 : decode cX7_water 56 = .ok (.iconst 2, 1) := by decide +kernel
theorem dX7_water_57 : decode cX7_water 57 = .ok (.iload_n 1, 1) := by decide +kernel
theorem dX7_water_58 : decode cX7_water 58 = .ok (.iadd, 1) := by decide +kernel
theorem dX7_water_59 : decode cX7_water 59 = .ok (.iload_n 2, 1) := by decide +kernel
theorem dX7_water_60 : decode cX7_water 60 = .ok (.invokevirtual 75, 3) := by decide +kernel
theorem dX7_water_63 : decode cX7_water 63 = .ok (.goto 9, 3) := by decide +kernel
theorem dX7_water_66 : decode cX7_water 66 = .ok (.aload_n 0, 1) := by decide +kernel
theorem dX7_water_67 : decode cX7_water 67 = .ok (.ldc 48, 2) := by decide +kernel
theorem dX7_water_69 : decode cX7_water 69 = .ok (.invokevirtual 78, 3) := by decide +kernel
theorem dX7_water_72 : decode cX7_water 72 = .ok (.ireturn, 1) := by decide +kernel
set_option maxRecDepth 20000 in
theorem ggX7_adds_X7_spot : GoodIn wsX7_adds wsX7_spot := goodIn_r _ [5] rfl (by decide +kernel)
set_option maxRecDepth 20000 in
theorem gX7_adds_X7_spot : GoodIn wsX7_adds (va_wsS RX7 57 yX7_spot wsX7_spot) := goodIn_app (goodIn_of _ (by decide +kernel)) ggX7_adds_X7_spot
theorem dX7_adds_0 : decode cX7_adds 0 = .ok (.aload_n 0, 1) := by decide +kernel
theorem dX7_adds_1 : decode cX7_adds 1 = .ok (.getfield 7, 3) := by decide +kernel
theorem dX7_adds_4 : decode cX7_adds 4 = .ok (.iconst 0, 1) := by decide +kernel
theorem dX7_adds_5 : decode cX7_adds 5 = .ok (.iaload, 1) := by decide +kernel
theorem dX7_adds_6 : decode cX7_adds 6 = .ok (.istore_n 2, 1) := by decide +kernel
theorem dX7_adds_7 : decode cX7_adds 7 = .ok (.aload_n 0, 1) := by decide +kernel
theorem dX7_adds_8 : decode cX7_adds 8 = .ok (.getfield 7, 3) := by decide +kernel
theorem dX7_adds_11 : decode cX7_adds 11 = .ok (.iload_n 2, 1) := by decide +kernel
theorem dX7_adds_12 : decode cX7_adds 12 = .ok (.iconst 0, 1) := by decide +kernel
theorem dX7_adds_13 : decode cX7_adds 13 = .ok (.invokestatic 57, 3) := by decide +kernel
theorem dX7_adds_16 : decode cX7_adds 16 = .ok (.iload_n 1, 1) := by decide +kernel
theorem dX7_adds_17 : decode cX7_adds 17 = .ok (.iastore, 1) := by decide +kernel
theorem dX7_adds_18 : decode cX7_adds 18 = .ok (.aload_n 0, 1) := by decide +kernel
theorem dX7_adds_19 : decode cX7_adds 19 = .ok (.getfield 7, 3) := by decide +kernel
theorem dX7_adds_22 : decode cX7_adds 22 = .ok (.iload_n 2, 1) := by decide +kernel
theorem dX7_adds_23 : decode cX7_adds 23 = .ok (.iconst 1, 1) := by decide +kernel
theorem dX7_adds_24 : decode cX7_adds 24 = .ok (.invokestatic 57, 3) := by decide +kernel
theorem dX7_adds_27 : decode cX7_adds 27 = .ok (.iconst 0, 1) := by decide +kernel
theorem dX7_adds_28 : decode cX7_adds 28 = .ok (.iastore, 1) := by decide +kernel
theorem dX7_adds_29 : decode cX7_adds 29 = .ok (.aload_n 0, 1) := by decide +kernel
theorem dX7_adds_30 : decode cX7_adds 30 = .ok (.getfield 7, 3) := by decide +kernel
theorem dX7_adds_33 : decode cX7_adds 33 = .ok (.iload_n 2, 1) := by decide +kernel
theorem dX7_adds_34 : decode cX7_adds 34 = .ok (.iconst 2, 1) := by decide +kernel
theorem dX7_adds_35 : decode cX7_adds 35 = .ok (.invokestatic 57, 3) := by decide +kernel
theorem dX7_adds_38 : decode cX7_adds 38 = .ok (.iload_n 2, 1) := by decide +kernel
theorem dX7_adds_39 : decode cX7_adds 39 = .ok (.iastore, 1) := by decide +kernel
theorem dX7_adds_40 : decode cX7_adds 40 = .ok (.aload_n 0, 1) := by decide +kernel
theorem dX7_adds_41 : decode cX7_adds 41 = .ok (.getfield 7, 3) := by decide +kernel
theorem dX7_adds_44 : decode cX7_adds 44 = .ok (.iload_n 2, 1) := by decide +kernel
theorem dX7_adds_45 : decode cX7_adds 45 = .ok (.iconst 3, 1) := by decide +kernel
theorem dX7_adds_46 : decode cX7_adds 46 = .ok (.invokestatic 57, 3) := by decide +kernel
theorem dX7_adds_49 : decode cX7_adds 49 = .ok (.iconst 0, 1) := by decide +kernel
theorem dX7_adds_50 : decode cX7_adds 50 = .ok (.iastore, 1) := by decide +kernel
theorem dX7_adds_51 : decode cX7_adds 51 = .ok (.aload_n 0, 1) := by decide +kernel
theorem dX7_adds_52 : decode cX7_adds 52 = .ok (.getfield 7, 3) := by decide +kernel
theorem dX7_adds_55 : decode cX7_adds 55 = .ok (.iconst 0, 1) := by decide +kernel
theorem dX7_adds_56 : decode cX7_adds 56 = .ok (.dup2, 1) := by decide +kernel
theorem dX7_adds_57 : decode cX7_adds 57 = .ok (.iaload, 1) := by decide +kernel
theorem dX7_adds_58 : decode cX7_adds 58 = .ok (.iconst 1, 1) := by decide +kernel
theorem dX7_adds_59 : decode cX7_adds 59 = .ok (.iadd, 1) := by decide +kernel
theorem dX7_adds_60 : decode cX7_adds 60 = .ok (.iastore, 1) := by decide +kernel
theorem dX7_adds_61 : decode cX7_adds 61 = .ok (.iload_n 2, 1) := by decide +kernel
theorem dX7_adds_62 : decode cX7_adds 62 = .ok (.ireturn, 1) := by decide +kernel
set_option maxRecDepth 20000 in
theorem ggX7_person_X7_isKind : GoodIn wsX7_person wsX7_isKind := goodIn_r _ [7, 8, 9, 10, 6, 11] rfl (by decide +kernel)
set_option maxRecDepth 20000 in
theorem gX7_person_X7_isKind : GoodIn wsX7_person (va_wsS RX7 86 yX7_isKind wsX7_isKind) := goodIn_app (goodIn_of _ (by decide +kernel)) ggX7_person_X7_isKind
set_option maxRecDepth 20000 in
theorem ggX7_person_X7_finds : GoodIn wsX7_person wsX7_finds := goodIn_r _ [15, 16, 1, 24, 25, 26, 27, 28, 29, 30, 31, 32, 33, 34, 35, 36, 37, 38, 39, 40, 41] rfl (by decide +kernel)
set_option maxRecDepth 20000 in
theorem gX7_person_X7_finds : GoodIn wsX7_person (wsV RX7 78 RX7 yX7_finds wsX7_finds) := goodIn_app (goodIn_of _ (by decide +kernel)) ggX7_person_X7_finds
set_option maxRecDepth 20000 in
theorem ggX7_person_X7_adds : GoodIn wsX7_person wsX7_adds := goodIn_r _ [20, 2, 21, 22, 6, 23, 24, 25, 26, 27, 28, 29, 30, 31, 32, 33, 34, 35, 36, 37, 38, 39, 40, 41] rfl (by decide +kernel)
set_option maxRecDepth 20000 in
theorem gX7_person_X7_adds : GoodIn wsX7_person (wsV RX7 90 RX7 yX7_adds wsX7_adds) := goodIn_app (goodIn_of _ (by decide +kernel)) ggX7_person_X7_adds
theorem dX7_person_0 : decode cX7_person 0 = .ok (.iload_n 1, 1) := by decide +kernel
theorem dX7_person_1 : decode cX7_person 1 = .ok (.invokestatic 86, 3) := by decide +kernel
theorem dX7_person_4 : decode cX7_person 4 = .ok (.ifCond .ne 10, 3) := by decide +kernel
theorem dX7_person_7 : decode cX7_person 7 = .ok (.aload_n 0, 1) := by decide +kernel
theorem dX7_person_8 : decode cX7_person 8 = .ok (.ldc 48, 2) := by decide +kernel
theorem dX7_person_10 : decode cX7_person 10 = .ok (.invokevirtual 78, 3) := by decide +kernel
theorem dX7_person_13 : decode cX7_person 13 = .ok (.ireturn, 1) := by decide +kernel
theorem dX7_person_14 : decode cX7_person 14 = .ok (.aload_n 0, 1) := by decide +kernel
theorem dX7_person_15 : decode cX7_person 15 = .ok (.getfield 7, 3) := by decide +kernel
theorem dX7_person_18 : decode cX7_person 18 = .ok (.iconst 0, 1) := by decide +kernel
theorem dX7_person_19 : decode cX7_person 19 = .ok (.iaload, 1) := by decide +kernel
theorem dX7_person_20 : decode cX7_person 20 = .ok (.bipush 8, 2) := by decide +kernel
theorem dX7_person_22 : decode cX7_person 22 = .ok (.if_icmp .ne 12, 3) := by decide +kernel
theorem dX7_person_25 : decode cX7_person 25 = .ok (.aload_n 0, 1) := by decide +kernel
theorem dX7_person_26 : decode cX7_person 26 = .ok (.ldc 89, 2) := by decide +kernel
theorem dX7_person_28 : decode cX7_person 28 = .ok (.invokevirtual 78, 3) := by decide +kernel
theorem dX7_person_31 : decode cX7_person 31 = .ok (.goto 8, 3) := by decide +kernel
theorem dX7_person_34 : decode cX7_person 34 = .ok (.aload_n 0, 1) := by decide +kernel
theorem dX7_person_35 : decode cX7_person 35 = .ok (.iload_n 1, 1) := by decide +kernel
theorem dX7_person_36 : decode cX7_person 36 = .ok (.invokevirtual 90, 3) := by decide +kernel
theorem dX7_person_39 : decode cX7_person 39 = .ok (.ireturn, 1) := by decide +kernel
theorem dX7_ones_0 : decode cX7_ones 0 = .ok (.iconst 0, 1) := by decide +kernel
theorem dX7_ones_1 : decode cX7_ones 1 = .ok (.istore_n 1, 1) := by decide +kernel
theorem dX7_ones_2 : decode cX7_ones 2 = .ok (.iload_n 0, 1) := by decide +kernel
theorem dX7_ones_3 : decode cX7_ones 3 = .ok (.istore_n 2, 1) := by decide +kernel
theorem dX7_ones_4 : decode cX7_ones 4 = .ok (.iload_n 2, 1) := by decide +kernel
theorem dX7_ones_5 : decode cX7_ones 5 = .ok (.ifCond .eq 15, 3) := by decide +kernel
theorem dX7_ones_8 : decode cX7_ones 8 = .ok (.iinc 1 1, 3) := by decide +kernel
theorem dX7_ones_11 : decode cX7_ones 11 = .ok (.iload_n 2, 1) := by decide +kernel
theorem dX7_ones_12 : decode cX7_ones 12 = .ok (.iload_n 2, 1) := by decide +kernel
theorem dX7_ones_13 : decode cX7_ones 13 = .ok (.iconst 1, 1) := by decide +kernel
theorem dX7_ones_14 : decode cX7_ones 14 = .ok (.isub, 1) := by decide +kernel
theorem dX7_ones_15 : decode cX7_ones 15 = .ok (.iand, 1) := by decide +kernel
theorem dX7_ones_16 : decode cX7_ones 16 = .ok (.istore_n 2, 1) := by decide +kernel
theorem dX7_ones_17 : decode cX7_ones 17 = .ok (.goto (-13), 3) := by decide +kernel
theorem dX7_ones_20 : decode cX7_ones 20 = .ok (.iload_n 1, 1) := by decide +kernel
theorem dX7_ones_21 : decode cX7_ones 21 = .ok (.ireturn, 1) := by decide +kernel
set_option maxRecDepth 20000 in
theorem ggX7_deserves_X7_its : GoodIn wsX7_deserves wsX7_its := goodIn_r _ [5, 6, 7, 8, 4, 9, 13, 14, 15, 16, 17, 18, 19, 20, 21, 22, 23, 24, 25, 26, 27, 28, 29, 30] rfl (by decide +kernel)
set_option maxRecDepth 20000 in
theorem gX7_deserves_X7_its : GoodIn wsX7_deserves (wsV RX7 93 RX7 yX7_its wsX7_its) := goodIn_app (goodIn_of _ (by decide +kernel)) ggX7_deserves_X7_its
set_option maxRecDepth 20000 in
theorem ggX7_deserves_X7_ones : GoodIn wsX7_deserves wsX7_ones := goodIn_r _ [12] rfl (by decide +kernel)
set_option maxRecDepth 20000 in
theorem gX7_deserves_X7_ones : GoodIn wsX7_deserves (va_wsS RX7 96 yX7_ones wsX7_ones) := goodIn_app (goodIn_of _ (by decide +kernel)) ggX7_deserves_X7_ones
theorem dX7_deserves_0 : decode cX7_deserves 0 = .ok (.aload_n 0, 1) := by decide +kernel
theorem dX7_deserves_1 : decode cX7_deserves 1 = .ok (.iload_n 1, 1) := by decide +kernel
theorem dX7_deserves_2 : decode cX7_deserves 2 = .ok (.iconst 1, 1) := by decide +kernel
theorem dX7_deserves_3 : decode cX7_deserves 3 = .ok (.invokevirtual 93, 3) := by decide +kernel
theorem dX7_deserves_6 : decode cX7_deserves 6 = .ok (.istore_n 2, 1) := by decide +kernel
theorem dX7_deserves_7 : decode cX7_deserves 7 = .ok (.iload_n 2, 1) := by decide +kernel
theorem dX7_deserves_8 : decode cX7_deserves 8 = .ok (.iconst 4, 1) := by decide +kernel
theorem dX7_deserves_9 : decode cX7_deserves 9 = .ok (.ishr, 1) := by decide +kernel
theorem dX7_deserves_10 : decode cX7_deserves 10 = .ok (.invokestatic 96, 3) := by decide +kernel
theorem dX7_deserves_13 : decode cX7_deserves 13 = .ok (.istore_n 3, 1) := by decide +kernel
theorem dX7_deserves_14 : decode cX7_deserves 14 = .ok (.iconst 4, 1) := by decide +kernel
theorem dX7_deserves_15 : decode cX7_deserves 15 = .ok (.iconst 2, 1) := by decide +kernel
theorem dX7_deserves_16 : decode cX7_deserves 16 = .ok (.iload_n 2, 1) := by decide +kernel
theorem dX7_deserves_17 : decode cX7_deserves 17 = .ok (.bipush 15, 2) := by decide +kernel
theorem dX7_deserves_19 : decode cX7_deserves 19 = .ok (.iand, 1) := by decide +kernel
theorem dX7_deserves_20 : decode cX7_deserves 20 = .ok (.invokestatic 96, 3) := by decide +kernel
theorem dX7_deserves_23 : decode cX7_deserves 23 = .ok (.imul, 1) := by decide +kernel
theorem dX7_deserves_24 : decode cX7_deserves 24 = .ok (.iadd, 1) := by decide +kernel
theorem dX7_deserves_25 : decode cX7_deserves 25 = .ok (.iload_n 3, 1) := by decide +kernel
theorem dX7_deserves_26 : decode cX7_deserves 26 = .ok (.isub, 1) := by decide +kernel
theorem dX7_deserves_27 : decode cX7_deserves 27 = .ok (.istore 4, 2) := by decide +kernel
theorem dX7_deserves_29 : decode cX7_deserves 29 = .ok (.iload 4, 2) := by decide +kernel
theorem dX7_deserves_31 : decode cX7_deserves 31 = .ok (.ifCond .ge 7, 3) := by decide +kernel
theorem dX7_deserves_34 : decode cX7_deserves 34 = .ok (.iconst 0, 1) := by decide +kernel
theorem dX7_deserves_35 : decode cX7_deserves 35 = .ok (.goto 5, 3) := by decide +kernel
theorem dX7_deserves_38 : decode cX7_deserves 38 = .ok (.iload 4, 2) := by decide +kernel
theorem dX7_deserves_40 : decode cX7_deserves 40 = .ok (.istore 5, 2) := by decide +kernel
theorem dX7_deserves_42 : decode cX7_deserves 42 = .ok (.aload_n 0, 1) := by decide +kernel
theorem dX7_deserves_43 : decode cX7_deserves 43 = .ok (.iload_n 1, 1) := by decide +kernel
theorem dX7_deserves_44 : decode cX7_deserves 44 = .ok (.iconst 0, 1) := by decide +kernel
theorem dX7_deserves_45 : decode cX7_deserves 45 = .ok (.invokevirtual 93, 3) := by decide +kernel
theorem dX7_deserves_48 : decode cX7_deserves 48 = .ok (.tableswitch 79 1 5 #[36, 41, 46, 58, 63], 36) := by decide +kernel
theorem dX7_deserves_84 : decode cX7_deserves 84 = .ok (.iload 5, 2) := by decide +kernel
theorem dX7_deserves_86 : decode cX7_deserves 86 = .ok (.iconst 3, 1) := by decide +kernel
theorem dX7_deserves_87 : decode cX7_deserves 87 = .ok (.iadd, 1) := by decide +kernel
theorem dX7_deserves_88 : decode cX7_deserves 88 = .ok (.ireturn, 1) := by decide +kernel
theorem dX7_deserves_89 : decode cX7_deserves 89 = .ok (.iload 5, 2) := by decide +kernel
theorem dX7_deserves_91 : decode cX7_deserves 91 = .ok (.iconst 2, 1) := by decide +kernel
theorem dX7_deserves_92 : decode cX7_deserves 92 = .ok (.idiv, 1) := by decide +kernel
theorem dX7_deserves_93 : decode cX7_deserves 93 = .ok (.ireturn, 1) := by decide +kernel
theorem dX7_deserves_94 : decode cX7_deserves 94 = .ok (.iload_n 3, 1) := by decide +kernel
theorem dX7_deserves_95 : decode cX7_deserves 95 = .ok (.ifCond .ne 8, 3) := by decide +kernel
theorem dX7_deserves_98 : decode cX7_deserves 98 = .ok (.bipush 12, 2) := by decide +kernel
theorem dX7_deserves_100 : decode cX7_deserves 100 = .ok (.goto 5, 3) := by decide +kernel
theorem dX7_deserves_103 : decode cX7_deserves 103 = .ok (.iload 5, 2) := by decide +kernel
theorem dX7_deserves_105 : decode cX7_deserves 105 = .ok (.ireturn, 1) := by decide +kernel
theorem dX7_deserves_106 : decode cX7_deserves 106 = .ok (.iload 5, 2) := by decide +kernel
theorem dX7_deserves_108 : decode cX7_deserves 108 = .ok (.iconst 1, 1) := by decide +kernel
theorem dX7_deserves_109 : decode cX7_deserves 109 = .ok (.iadd, 1) := by decide +kernel
theorem dX7_deserves_110 : decode cX7_deserves 110 = .ok (.ireturn, 1) := by decide +kernel
theorem dX7_deserves_111 : decode cX7_deserves 111 = .ok (.iload_n 2, 1) := by decide +kernel
theorem dX7_deserves_112 : decode cX7_deserves 112 = .ok (.iconst 2, 1) := by decide +kernel
theorem dX7_deserves_113 : decode cX7_deserves 113 = .ok (.irem, 1) := by decide +kernel
theorem dX7_deserves_114 : decode cX7_deserves 114 = .ok (.iconst 1, 1) := by decide +kernel
theorem dX7_deserves_115 : decode cX7_deserves 115 = .ok (.if_icmp .ne 7, 3) := by decide +kernel
theorem dX7_deserves_118 : decode cX7_deserves 118 = .ok (.iconst 0, 1) := by decide +kernel
theorem dX7_deserves_119 : decode cX7_deserves 119 = .ok (.goto 7, 3) := by decide +kernel
theorem dX7_deserves_122 : decode cX7_deserves 122 = .ok (.iload 5, 2) := by decide +kernel
theorem dX7_deserves_124 : decode cX7_deserves 124 = .ok (.iconst 2, 1) := by decide +kernel
theorem dX7_deserves_125 : decode cX7_deserves 125 = .ok (.idiv, 1) := by decide +kernel
theorem dX7_deserves_126 : decode cX7_deserves 126 = .ok (.ireturn, 1) := by decide +kernel
theorem dX7_deserves_127 : decode cX7_deserves 127 = .ok (.iload 5, 2) := by decide +kernel
theorem dX7_deserves_129 : decode cX7_deserves 129 = .ok (.ireturn, 1) := by decide +kernel
set_option maxRecDepth 20000 in
theorem ggX7_gives_X7_its : GoodIn wsX7_gives wsX7_its := goodIn_r _ [6, 1, 7, 8, 5, 9, 17, 18, 19, 20, 21, 22, 23, 24, 25, 26, 27, 28, 29, 30, 31, 32, 33, 34] rfl (by decide +kernel)
set_option maxRecDepth 20000 in
theorem gX7_gives_X7_its : GoodIn wsX7_gives (wsV RX7 93 RX7 yX7_its wsX7_its) := goodIn_app (goodIn_of _ (by decide +kernel)) ggX7_gives_X7_its
set_option maxRecDepth 20000 in
theorem ggX7_gives_X7_deserves : GoodIn wsX7_gives wsX7_deserves := goodIn_r _ [13, 2, 3, 4, 5, 6, 1, 7, 8, 9, 14, 15, 16, 17, 18, 19, 20, 21, 22, 23, 24, 25, 26, 27, 28, 29, 30, 31, 32, 33, 34] rfl (by decide +kernel)
set_option maxRecDepth 20000 in
theorem gX7_gives_X7_deserves : GoodIn wsX7_gives (wsV RX7 99 RX7 yX7_deserves wsX7_deserves) := goodIn_app (goodIn_of _ (by decide +kernel)) ggX7_gives_X7_deserves
theorem dX7_gives_0 : decode cX7_gives 0 = .ok (.aload_n 0, 1) := by decide +kernel
theorem dX7_gives_1 : decode cX7_gives 1 = .ok (.iload_n 1, 1) := by decide +kernel
theorem dX7_gives_2 : decode cX7_gives 2 = .ok (.iconst 2, 1) := by decide +kernel
theorem dX7_gives_3 : decode cX7_gives 3 = .ok (.invokevirtual 93, 3) := by decide +kernel
theorem dX7_gives_6 : decode cX7_gives 6 = .ok (.istore_n 2, 1) := by decide +kernel
theorem dX7_gives_7 : decode cX7_gives 7 = .ok (.aload_n 0, 1) := by decide +kernel
theorem dX7_gives_8 : decode cX7_gives 8 = .ok (.iload_n 1, 1) := by decide +kernel
theorem dX7_gives_9 : decode cX7_gives 9 = .ok (.invokevirtual 99, 3) := by decide +kernel
theorem dX7_gives_12 : decode cX7_gives 12 = .ok (.aload_n 0, 1) := by decide +kernel
theorem dX7_gives_13 : decode cX7_gives 13 = .ok (.getfield 7, 3) := by decide +kernel
theorem dX7_gives_16 : decode cX7_gives 16 = .ok (.iconst 4, 1) := by decide +kernel
theorem dX7_gives_17 : decode cX7_gives 17 = .ok (.iaload, 1) := by decide +kernel
theorem dX7_gives_18 : decode cX7_gives 18 = .ok (.iadd, 1) := by decide +kernel
theorem dX7_gives_19 : decode cX7_gives 19 = .ok (.istore_n 3, 1) := by decide +kernel
theorem dX7_gives_20 : decode cX7_gives 20 = .ok (.aload_n 0, 1) := by decide +kernel
theorem dX7_gives_21 : decode cX7_gives 21 = .ok (.iload_n 1, 1) := by decide +kernel
theorem dX7_gives_22 : decode cX7_gives 22 = .ok (.iconst 0, 1) := by decide +kernel
theorem dX7_gives_23 : decode cX7_gives 23 = .ok (.invokevirtual 93, 3) := by decide +kernel
theorem dX7_gives_26 : decode cX7_gives 26 = .ok (.iconst 4, 1) := by decide +kernel
theorem dX7_gives_27 : decode cX7_gives 27 = .ok (.if_icmp .ne 33, 3) := by decide +kernel
theorem dX7_gives_30 : decode cX7_gives 30 = .ok (.iload_n 2, 1) := by decide +kernel
theorem dX7_gives_31 : decode cX7_gives 31 = .ok (.iload_n 1, 1) := by decide +kernel
theorem dX7_gives_32 : decode cX7_gives 32 = .ok (.if_icmp .eq 28, 3) := by decide +kernel
theorem dX7_gives_35 : decode cX7_gives 35 = .ok (.aload_n 0, 1) := by decide +kernel
theorem dX7_gives_36 : decode cX7_gives 36 = .ok (.iload_n 2, 1) := by decide +kernel
theorem dX7_gives_37 : decode cX7_gives 37 = .ok (.invokevirtual 99, 3) := by decide +kernel
theorem dX7_gives_40 : decode cX7_gives 40 = .ok (.aload_n 0, 1) := by decide +kernel
theorem dX7_gives_41 : decode cX7_gives 41 = .ok (.getfield 7, 3) := by decide +kernel
theorem dX7_gives_44 : decode cX7_gives 44 = .ok (.iconst 4, 1) := by decide +kernel
theorem dX7_gives_45 : decode cX7_gives 45 = .ok (.iaload, 1) := by decide +kernel
theorem dX7_gives_46 : decode cX7_gives 46 = .ok (.iadd, 1) := by decide +kernel
theorem dX7_gives_47 : decode cX7_gives 47 = .ok (.iconst 1, 1) := by decide +kernel
theorem dX7_gives_48 : decode cX7_gives 48 = .ok (.isub, 1) := by decide +kernel
theorem dX7_gives_49 : decode cX7_gives 49 = .ok (.istore_n 3, 1) := by decide +kernel
theorem dX7_gives_50 : decode cX7_gives 50 = .ok (.iload_n 3, 1) := by decide +kernel
theorem dX7_gives_51 : decode cX7_gives 51 = .ok (.ifCond .ge 7, 3) := by decide +kernel
theorem dX7_gives_54 : decode cX7_gives 54 = .ok (.iconst 0, 1) := by decide +kernel
theorem dX7_gives_55 : decode cX7_gives 55 = .ok (.goto 4, 3) := by decide +kernel
theorem dX7_gives_58 : decode cX7_gives 58 = .ok (.iload_n 3, 1) := by decide +kernel
theorem dX7_gives_59 : decode cX7_gives 59 = .ok (.istore_n 3, 1) := by decide +kernel
theorem dX7_gives_60 : decode cX7_gives 60 = .ok (.iload_n 3, 1) := by decide +kernel
theorem dX7_gives_61 : decode cX7_gives 61 = .ok (.aload_n 0, 1) := by decide +kernel
theorem dX7_gives_62 : decode cX7_gives 62 = .ok (.iload_n 1, 1) := by decide +kernel
theorem dX7_gives_63 : decode cX7_gives 63 = .ok (.iconst 3, 1) := by decide +kernel
theorem dX7_gives_64 : decode cX7_gives 64 = .ok (.invokevirtual 93, 3) := by decide +kernel
theorem dX7_gives_67 : decode cX7_gives 67 = .ok (.ishr, 1) := by decide +kernel
theorem dX7_gives_68 : decode cX7_gives 68 = .ok (.istore_n 3, 1) := by decide +kernel
theorem dX7_gives_69 : decode cX7_gives 69 = .ok (.iload_n 3, 1) := by decide +kernel
theorem dX7_gives_70 : decode cX7_gives 70 = .ok (.aload_n 0, 1) := by decide +kernel
theorem dX7_gives_71 : decode cX7_gives 71 = .ok (.getfield 7, 3) := by decide +kernel
theorem dX7_gives_74 : decode cX7_gives 74 = .ok (.iconst 2, 1) := by decide +kernel
theorem dX7_gives_75 : decode cX7_gives 75 = .ok (.iaload, 1) := by decide +kernel
theorem dX7_gives_76 : decode cX7_gives 76 = .ok (.if_icmp .le 12, 3) := by decide +kernel
theorem dX7_gives_79 : decode cX7_gives 79 = .ok (.aload_n 0, 1) := by decide +kernel
theorem dX7_gives_80 : decode cX7_gives 80 = .ok (.getfield 7, 3) := by decide +kernel
theorem dX7_gives_83 : decode cX7_gives 83 = .ok (.iconst 2, 1) := by decide +kernel
theorem dX7_gives_84 : decode cX7_gives 84 = .ok (.iaload, 1) := by decide +kernel
theorem dX7_gives_85 : decode cX7_gives 85 = .ok (.goto 4, 3) := by decide +kernel
theorem dX7_gives_88 : decode cX7_gives 88 = .ok (.iload_n 3, 1) := by decide +kernel
theorem dX7_gives_89 : decode cX7_gives 89 = .ok (.ireturn, 1) := by decide +kernel
set_option maxRecDepth 20000 in
theorem ggX7_of_X7_isPerson : GoodIn wsX7_of wsX7_isPerson := goodIn_r _ [7, 8, 9, 10, 6, 11, 35, 36, 37, 38, 39, 40, 41, 42, 43, 44, 45, 46, 47, 48, 49, 50, 51, 52] rfl (by decide +kernel)
set_option maxRecDepth 20000 in
theorem gX7_of_X7_isPerson : GoodIn wsX7_of (wsV RX7 64 RX7 yX7_isPerson wsX7_isPerson) := goodIn_app (goodIn_of _ (by decide +kernel)) ggX7_of_X7_isPerson
set_option maxRecDepth 20000 in
theorem ggX7_of_X7_in : GoodIn wsX7_of wsX7_in := goodIn_r _ [11] rfl (by decide +kernel)
set_option maxRecDepth 20000 in
theorem gX7_of_X7_in : GoodIn wsX7_of (va_wsS RX7 51 yX7_in wsX7_in) := goodIn_app (goodIn_of _ (by decide +kernel)) ggX7_of_X7_in
set_option maxRecDepth 20000 in
theorem ggX7_of_X7_finds : GoodIn wsX7_of wsX7_finds := goodIn_r _ [15, 16, 2, 35, 36, 37, 38, 39, 40, 41, 42, 43, 44, 45, 46, 47, 48, 49, 50, 51, 52] rfl (by decide +kernel)
set_option maxRecDepth 20000 in
theorem gX7_of_X7_finds : GoodIn wsX7_of (wsV RX7 78 RX7 yX7_finds wsX7_finds) := goodIn_app (goodIn_of _ (by decide +kernel)) ggX7_of_X7_finds
set_option maxRecDepth 20000 in
theorem ggX7_of_X7_its : GoodIn wsX7_of wsX7_its := goodIn_r _ [20, 8, 21, 22, 6, 23, 35, 36, 37, 38, 39, 40, 41, 42, 43, 44, 45, 46, 47, 48, 49, 50, 51, 52] rfl (by decide +kernel)
set_option maxRecDepth 20000 in
theorem gX7_of_X7_its : GoodIn wsX7_of (wsV RX7 93 RX7 yX7_its wsX7_its) := goodIn_app (goodIn_of _ (by decide +kernel)) ggX7_of_X7_its
set_option maxRecDepth 20000 in
theorem ggX7_of_X7_deserves : GoodIn wsX7_of wsX7_deserves := goodIn_r _ [27, 17, 18, 19, 6, 20, 8, 21, 22, 23, 28, 29, 30, 35, 36, 37, 38, 39, 40, 41, 42, 43, 44, 45, 46, 47, 48, 49, 50, 51, 52] rfl (by decide +kernel)
set_option maxRecDepth 20000 in
theorem gX7_of_X7_deserves : GoodIn wsX7_of (wsV RX7 99 RX7 yX7_deserves wsX7_deserves) := goodIn_app (goodIn_of _ (by decide +kernel)) ggX7_of_X7_deserves
set_option maxRecDepth 20000 in
theorem ggX7_of_X7_gives : GoodIn wsX7_of wsX7_gives := goodIn_r _ [34, 8, 17, 18, 19, 6, 20, 21, 22, 23, 24, 25, 26, 27, 28, 29, 30, 35, 36, 37, 38, 39, 40, 41, 42, 43, 44, 45, 46, 47, 48, 49, 50, 51, 52] rfl (by decide +kernel)
set_option maxRecDepth 20000 in
theorem gX7_of_X7_gives : GoodIn wsX7_of (wsV RX7 102 RX7 yX7_gives wsX7_gives) := goodIn_app (goodIn_of _ (by decide +kernel)) ggX7_of_X7_gives
theorem dX7_of_0 : decode cX7_of 0 = .ok (.aload_n 0, 1) := by decide +kernel
theorem dX7_of_1 : decode cX7_of 1 = .ok (.iload_n 1, 1) := by decide +kernel
theorem dX7_of_2 : decode cX7_of 2 = .ok (.invokevirtual 64, 3) := by decide +kernel
theorem dX7_of_5 : decode cX7_of 5 = .ok (.ifCond .eq 15, 3) := by decide +kernel
theorem dX7_of_8 : decode cX7_of 8 = .ok (.iload_n 2, 1) := by decide +kernel
theorem dX7_of_9 : decode cX7_of 9 = .ok (.i2l, 1) := by decide +kernel
theorem dX7_of_10 : decode cX7_of 10 = .ok (.lconst 0, 1) := by decide +kernel
theorem dX7_of_11 : decode cX7_of 11 = .ok (.ldc2_w 55, 3) := by decide +kernel
theorem dX7_of_14 : decode cX7_of 14 = .ok (.invokestatic 51, 3) := by decide +kernel
theorem dX7_of_17 : decode cX7_of 17 = .ok (.ifCond .ne 10, 3) := by decide +kernel
theorem dX7_of_20 : decode cX7_of 20 = .ok (.aload_n 0, 1) := by decide +kernel
theorem dX7_of_21 : decode cX7_of 21 = .ok (.ldc 48, 2) := by decide +kernel
theorem dX7_of_23 : decode cX7_of 23 = .ok (.invokevirtual 78, 3) := by decide +kernel
theorem dX7_of_26 : decode cX7_of 26 = .ok (.ireturn, 1) := by decide +kernel
theorem dX7_of_27 : decode cX7_of 27 = .ok (.iload_n 2, 1) := by decide +kernel
theorem dX7_of_28 : decode cX7_of 28 = .ok (.iconst 3, 1) := by decide +kernel
theorem dX7_of_29 : decode cX7_of 29 = .ok (.if_icmp .gt 12, 3) := by decide +kernel
theorem dX7_of_32 : decode cX7_of 32 = .ok (.aload_n 0, 1) := by decide +kernel
theorem dX7_of_33 : decode cX7_of 33 = .ok (.iload_n 1, 1) := by decide +kernel
theorem dX7_of_34 : decode cX7_of 34 = .ok (.iload_n 2, 1) := by decide +kernel
theorem dX7_of_35 : decode cX7_of 35 = .ok (.invokevirtual 93, 3) := by decide +kernel
theorem dX7_of_38 : decode cX7_of 38 = .ok (.goto 21, 3) := by decide +kernel
theorem dX7_of_41 : decode cX7_of 41 = .ok (.iload_n 2, 1) := by decide +kernel
theorem dX7_of_42 : decode cX7_of 42 = .ok (.iconst 4, 1) := by decide +kernel
theorem dX7_of_43 : decode cX7_of 43 = .ok (.if_icmp .ne 11, 3) := by decide +kernel
theorem dX7_of_46 : decode cX7_of 46 = .ok (.aload_n 0, 1) := by decide +kernel
theorem dX7_of_47 : decode cX7_of 47 = .ok (.iload_n 1, 1) := by decide +kernel
theorem dX7_of_48 : decode cX7_of 48 = .ok (.invokevirtual 99, 3) := by decide +kernel
theorem dX7_of_51 : decode cX7_of 51 = .ok (.goto 8, 3) := by decide +kernel
theorem dX7_of_54 : decode cX7_of 54 = .ok (.aload_n 0, 1) := by decide +kernel
theorem dX7_of_55 : decode cX7_of 55 = .ok (.iload_n 1, 1) := by decide +kernel
theorem dX7_of_56 : decode cX7_of 56 = .ok (.invokevirtual 102, 3) := by decide +kernel
theorem dX7_of_59 : decode cX7_of 59 = .ok (.ireturn, 1) := by decide +kernel
set_option maxRecDepth 20000 in
theorem ggX7_set_X7_in : GoodIn wsX7_set wsX7_in := goodIn_r _ [7] rfl (by decide +kernel)
set_option maxRecDepth 20000 in
theorem gX7_set_X7_in : GoodIn wsX7_set (va_wsS RX7 51 yX7_in wsX7_in) := goodIn_app (goodIn_of _ (by decide +kernel)) ggX7_set_X7_in
set_option maxRecDepth 20000 in
theorem ggX7_set_X7_isPerson : GoodIn wsX7_set wsX7_isPerson := goodIn_r _ [11, 12, 4, 5, 6, 7, 25, 26, 27, 28, 29, 30, 31, 32, 33, 34, 35, 36, 37, 38, 39, 40, 41, 42] rfl (by decide +kernel)
set_option maxRecDepth 20000 in
theorem gX7_set_X7_isPerson : GoodIn wsX7_set (wsV RX7 64 RX7 yX7_isPerson wsX7_isPerson) := goodIn_app (goodIn_of _ (by decide +kernel)) ggX7_set_X7_isPerson
set_option maxRecDepth 20000 in
theorem ggX7_set_X7_spot : GoodIn wsX7_set wsX7_spot := goodIn_r _ [15] rfl (by decide +kernel)
set_option maxRecDepth 20000 in
theorem gX7_set_X7_spot : GoodIn wsX7_set (va_wsS RX7 57 yX7_spot wsX7_spot) := goodIn_app (goodIn_of _ (by decide +kernel)) ggX7_set_X7_spot
set_option maxRecDepth 20000 in
theorem ggX7_set_X7_becomes : GoodIn wsX7_set wsX7_becomes := goodIn_r _ [19, 12, 25, 26, 27, 28, 29, 30, 31, 32, 33, 34, 35, 36, 37, 38, 39, 40, 41, 42] rfl (by decide +kernel)
set_option maxRecDepth 20000 in
theorem gX7_set_X7_becomes : GoodIn wsX7_set (wsV RX7 75 RX7 yX7_becomes wsX7_becomes) := goodIn_app (goodIn_of _ (by decide +kernel)) ggX7_set_X7_becomes
set_option maxRecDepth 20000 in
theorem ggX7_set_X7_finds : GoodIn wsX7_set wsX7_finds := goodIn_r _ [23, 24, 3, 25, 26, 27, 28, 29, 30, 31, 32, 33, 34, 35, 36, 37, 38, 39, 40, 41, 42] rfl (by decide +kernel)
set_option maxRecDepth 20000 in
theorem gX7_set_X7_finds : GoodIn wsX7_set (wsV RX7 78 RX7 yX7_finds wsX7_finds) := goodIn_app (goodIn_of _ (by decide +kernel)) ggX7_set_X7_finds
theorem dX7_set_0 : decode cX7_set 0 = .ok (.iload_n 2, 1) := by decide +kernel
theorem dX7_set_1 : decode cX7_set 1 = .ok (.iconst 1, 1) := by decide +kernel
theorem dX7_set_2 : decode cX7_set 2 = .ok (.if_icmp .ne 15, 3) := by decide +kernel
theorem dX7_set_5 : decode cX7_set 5 = .ok (.iload_n 3, 1) := by decide +kernel
theorem dX7_set_6 : decode cX7_set 6 = .ok (.i2l, 1) := by decide +kernel
theorem dX7_set_7 : decode cX7_set 7 = .ok (.lconst 0, 1) := by decide +kernel
theorem dX7_set_8 : decode cX7_set 8 = .ok (.ldc2_w 105, 3) := by decide +kernel
theorem dX7_set_11 : decode cX7_set 11 = .ok (.invokestatic 51, 3) := by decide +kernel
theorem dX7_set_14 : decode cX7_set 14 = .ok (.goto 38, 3) := by decide +kernel
theorem dX7_set_17 : decode cX7_set 17 = .ok (.iload_n 2, 1) := by decide +kernel
theorem dX7_set_18 : decode cX7_set 18 = .ok (.iconst 2, 1) := by decide +kernel
theorem dX7_set_19 : decode cX7_set 19 = .ok (.if_icmp .ne 11, 3) := by decide +kernel
theorem dX7_set_22 : decode cX7_set 22 = .ok (.aload_n 0, 1) := by decide +kernel
theorem dX7_set_23 : decode cX7_set 23 = .ok (.iload_n 3, 1) := by decide +kernel
theorem dX7_set_24 : decode cX7_set 24 = .ok (.invokevirtual 64, 3) := by decide +kernel
theorem dX7_set_27 : decode cX7_set 27 = .ok (.goto 25, 3) := by decide +kernel
theorem dX7_set_30 : decode cX7_set 30 = .ok (.iload_n 2, 1) := by decide +kernel
theorem dX7_set_31 : decode cX7_set 31 = .ok (.iconst 3, 1) := by decide +kernel
theorem dX7_set_32 : decode cX7_set 32 = .ok (.if_icmp .ne 19, 3) := by decide +kernel
theorem dX7_set_35 : decode cX7_set 35 = .ok (.iload_n 3, 1) := by decide +kernel
theorem dX7_set_36 : decode cX7_set 36 = .ok (.i2l, 1) := by decide +kernel
theorem dX7_set_37 : decode cX7_set 37 = .ok (.lconst 0, 1) := by decide +kernel
theorem dX7_set_38 : decode cX7_set 38 = .ok (.ldc2_w 107, 3) := by decide +kernel
theorem dX7_set_41 : decode cX7_set 41 = .ok (.invokestatic 51, 3) := by decide +kernel
theorem dX7_set_44 : decode cX7_set 44 = .ok (.ifCond .eq 7, 3) := by decide +kernel
theorem dX7_set_47 : decode cX7_set 47 = .ok (.iconst 1, 1) := by decide +kernel
theorem dX7_set_48 : decode cX7_set 48 = .ok (.goto 4, 3) := by decide +kernel
theorem dX7_set_51 : decode cX7_set 51 = .ok (.iconst 0, 1) := by decide +kernel
theorem dX7_set_52 : decode cX7_set 52 = .ok (.istore 4, 2) := by decide +kernel
theorem dX7_set_54 : decode cX7_set 54 = .ok (.aload_n 0, 1) := by decide +kernel
theorem dX7_set_55 : decode cX7_set 55 = .ok (.iload_n 1, 1) := by decide +kernel
theorem dX7_set_56 : decode cX7_set 56 = .ok (.invokevirtual 64, 3) := by decide +kernel
theorem dX7_set_59 : decode cX7_set 59 = .ok (.ifCond .eq 21, 3) := by decide +kernel
theorem dX7_set_62 : decode cX7_set 62 = .ok (.iload 4, 2) := by decide +kernel
theorem dX7_set_64 : decode cX7_set 64 = .ok (.ifCond .eq 16, 3) := by decide +kernel
theorem dX7_set_67 : decode cX7_set 67 = .ok (.aload_n 0, 1) := by decide +kernel
theorem dX7_set_68 : decode cX7_set 68 = .ok (.iload_n 1, 1) := by decide +kernel
theorem dX7_set_69 : decode cX7_set 69 = .ok (.iload_n 2, 1) := by decide +kernel
theorem dX7_set_70 : decode cX7_set 70 = .ok (.invokestatic 57, 3) := by decide +kernel
theorem dX7_set_73 : decode cX7_set 73 = .ok (.iload_n 3, 1) := by decide +kernel
