theorem dX7_item_97 : decode cX7_item 97 = .ok (.iconst 2, 1) := by decide +kernel
theorem dX7_item_98 : decode cX7_item 98 = .ok (.goto 4, 3) := by decide +kernel
theorem dX7_item_101 : decode cX7_item 101 = .ok (.iconst 3, 1) := by decide +kernel
theorem dX7_item_102 : decode cX7_item 102 = .ok (.istore 5, 2) := by decide +kernel
theorem dX7_item_104 : decode cX7_item 104 = .ok (.aload_n 0, 1) := by decide +kernel
theorem dX7_item_105 : decode cX7_item 105 = .ok (.getfield 7, 3) := by decide +kernel
theorem dX7_item_108 : decode cX7_item 108 = .ok (.iload 5, 2) := by decide +kernel
theorem dX7_item_110 : decode cX7_item 110 = .ok (.aload_n 0, 1) := by decide +kernel
theorem dX7_item_111 : decode cX7_item 111 = .ok (.getfield 194, 3) := by decide +kernel
theorem dX7_item_114 : decode cX7_item 114 = .ok (.ifCond .eq 13, 3) := by decide +kernel
theorem dX7_item_117 : decode cX7_item 117 = .ok (.aload_n 0, 1) := by decide +kernel
theorem dX7_item_118 : decode cX7_item 118 = .ok (.getfield 7, 3) := by decide +kernel
theorem dX7_item_121 : decode cX7_item 121 = .ok (.iload 5, 2) := by decide +kernel
theorem dX7_item_123 : decode cX7_item 123 = .ok (.iaload, 1) := by decide +kernel
theorem dX7_item_124 : decode cX7_item 124 = .ok (.goto 7, 3) := by decide +kernel
theorem dX7_item_127 : decode cX7_item 127 = .ok (.aload_n 0, 1) := by decide +kernel
theorem dX7_item_128 : decode cX7_item 128 = .ok (.getfield 205, 3) := by decide +kernel
theorem dX7_item_131 : decode cX7_item 131 = .ok (.iastore, 1) := by decide +kernel
theorem dX7_item_132 : decode cX7_item 132 = .ok (.return_, 1) := by decide +kernel
set_option maxRecDepth 20000 in
theorem ggX7_parish_X7_saves : GoodIn wsX7_parish wsX7_saves := goodIn_r _ [9, 10, 11, 101, 102, 103, 104, 105, 106, 107, 108, 109, 110, 111, 112, 113, 114, 115, 116, 117, 118] rfl (by decide +kernel)
set_option maxRecDepth 20000 in
theorem gX7_parish_X7_saves : GoodIn wsX7_parish (wsV RX7 266 RX7 yX7_saves wsX7_saves) := goodIn_app (goodIn_of _ (by decide +kernel)) ggX7_parish_X7_saves
set_option maxRecDepth 20000 in
theorem ggX7_parish_X7_token : GoodIn wsX7_parish wsX7_token := goodIn_r _ [15, 2, 3, 4, 16, 17, 18, 8, 19, 20, 21, 22, 23, 24, 25, 26, 27, 28, 29, 30, 31, 32, 33, 101, 102, 103, 104, 105, 106, 107, 108, 109, 110, 111, 112, 113, 114, 115, 116, 117, 118] rfl (by decide +kernel)
set_option maxRecDepth 20000 in
theorem gX7_parish_X7_token : GoodIn wsX7_parish (wsV RX7 198 RX7 yX7_token wsX7_token) := goodIn_app (goodIn_of _ (by decide +kernel)) ggX7_parish_X7_token
set_option maxRecDepth 20000 in
theorem ggX7_parish_X7_item : GoodIn wsX7_parish wsX7_item := goodIn_r _ [37, 38, 39, 40, 11, 1, 41, 42, 43, 44, 8, 45, 46, 47, 48, 49, 50, 51, 52, 53, 54, 55, 3, 2, 56, 57, 20, 16, 17, 18, 19, 4, 21, 22, 23, 24, 25, 26, 27, 28, 58, 59, 60, 61, 62, 63, 64, 65, 66, 67, 12, 13, 14, 15, 29, 30, 31, 32, 33, 68, 69, 70, 71, 72, 73, 74, 75, 76, 77, 78, 79, 80, 81, 82, 83, 84, 85, 86, 87, 88, 89, 90, 91, 92, 93, 94, 95, 96, 101, 102, 103, 104, 105, 106, 107, 108, 109, 110, 111, 112, 113, 114, 115, 116, 117, 118] rfl (by decide +kernel)
set_option maxRecDepth 20000 in
theorem gX7_parish_X7_item : GoodIn wsX7_parish (wsV RX7 269 RX7 yX7_item wsX7_item) := goodIn_app (goodIn_of _ (by decide +kernel)) ggX7_parish_X7_item
set_option maxRecDepth 20000 in
theorem ggX7_parish_X7_byteAt : GoodIn wsX7_parish wsX7_byteAt := goodIn_r _ [19, 4, 20, 101, 102, 103, 104, 105, 106, 107, 108, 109, 110, 111, 112, 113, 114, 115, 116, 117, 118] rfl (by decide +kernel)
set_option maxRecDepth 20000 in
theorem gX7_parish_X7_byteAt : GoodIn wsX7_parish (wsV RX7 185 RX7 yX7_byteAt wsX7_byteAt) := goodIn_app (goodIn_of _ (by decide +kernel)) ggX7_parish_X7_byteAt
set_option maxRecDepth 20000 in
theorem ggX7_parish_X7_must : GoodIn wsX7_parish wsX7_must := goodIn_r _ [67, 1, 12, 13, 14, 8, 15, 2, 3, 4, 16, 17, 18, 19, 20, 21, 22, 23, 24, 25, 26, 27, 28, 29, 30, 31, 32, 33, 101, 102, 103, 104, 105, 106, 107, 108, 109, 110, 111, 112, 113, 114, 115, 116, 117, 118] rfl (by decide +kernel)
set_option maxRecDepth 20000 in
theorem gX7_parish_X7_must : GoodIn wsX7_parish (wsV RX7 208 RX7 yX7_must wsX7_must) := goodIn_app (goodIn_of _ (by decide +kernel)) ggX7_parish_X7_must
set_option maxRecDepth 20000 in
theorem ggX7_parish_X7_putsBack : GoodIn wsX7_parish wsX7_putsBack := goodIn_r _ [100, 11, 10, 101, 102, 103, 104, 105, 106, 107, 108, 109, 110, 111, 112, 113, 114, 115, 116, 117, 118] rfl (by decide +kernel)
set_option maxRecDepth 20000 in
theorem gX7_parish_X7_putsBack : GoodIn wsX7_parish (wsV RX7 272 RX7 yX7_putsBack wsX7_putsBack) := goodIn_app (goodIn_of _ (by decide +kernel)) ggX7_parish_X7_putsBack
theorem dX7_parish_0 : decode cX7_parish 0 = .ok (.aload_n 0, 1) := by decide +kernel
theorem dX7_parish_1 : decode cX7_parish 1 = .ok (.invokevirtual 266, 3) := by decide +kernel
theorem dX7_parish_4 : decode cX7_parish 4 = .ok (.aload_n 0, 1) := by decide +kernel
theorem dX7_parish_5 : decode cX7_parish 5 = .ok (.iconst 0, 1) := by decide +kernel
theorem dX7_parish_6 : decode cX7_parish 6 = .ok (.putfield 194, 3) := by decide +kernel
theorem dX7_parish_9 : decode cX7_parish 9 = .ok (.aload_n 0, 1) := by decide +kernel
theorem dX7_parish_10 : decode cX7_parish 10 = .ok (.iconst 0, 1) := by decide +kernel
theorem dX7_parish_11 : decode cX7_parish 11 = .ok (.putfield 179, 3) := by decide +kernel
theorem dX7_parish_14 : decode cX7_parish 14 = .ok (.aload_n 0, 1) := by decide +kernel
theorem dX7_parish_15 : decode cX7_parish 15 = .ok (.invokevirtual 198, 3) := by decide +kernel
theorem dX7_parish_18 : decode cX7_parish 18 = .ok (.iconst 1, 1) := by decide +kernel
theorem dX7_parish_19 : decode cX7_parish 19 = .ok (.istore_n 1, 1) := by decide +kernel
theorem dX7_parish_20 : decode cX7_parish 20 = .ok (.aload_n 0, 1) := by decide +kernel
theorem dX7_parish_21 : decode cX7_parish 21 = .ok (.invokevirtual 269, 3) := by decide +kernel
theorem dX7_parish_24 : decode cX7_parish 24 = .ok (.aload_n 0, 1) := by decide +kernel
theorem dX7_parish_25 : decode cX7_parish 25 = .ok (.getfield 194, 3) := by decide +kernel
theorem dX7_parish_28 : decode cX7_parish 28 = .ok (.ifCond .ne 31, 3) := by decide +kernel
theorem dX7_parish_31 : decode cX7_parish 31 = .ok (.aload_n 0, 1) := by decide +kernel
theorem dX7_parish_32 : decode cX7_parish 32 = .ok (.aload_n 0, 1) := by decide +kernel
theorem dX7_parish_33 : decode cX7_parish 33 = .ok (.getfield 182, 3) := by decide +kernel
theorem dX7_parish_36 : decode cX7_parish 36 = .ok (.invokevirtual 185, 3) := by decide +kernel
theorem dX7_parish_39 : decode cX7_parish 39 = .ok (.bipush 59, 2) := by decide +kernel
theorem dX7_parish_41 : decode cX7_parish 41 = .ok (.if_icmp .ne 18, 3) := by decide +kernel
theorem dX7_parish_44 : decode cX7_parish 44 = .ok (.aload_n 0, 1) := by decide +kernel
theorem dX7_parish_45 : decode cX7_parish 45 = .ok (.iconst 1, 1) := by decide +kernel
theorem dX7_parish_46 : decode cX7_parish 46 = .ok (.invokevirtual 208, 3) := by decide +kernel
theorem dX7_parish_49 : decode cX7_parish 49 = .ok (.aload_n 0, 1) := by decide +kernel
theorem dX7_parish_50 : decode cX7_parish 50 = .ok (.invokevirtual 269, 3) := by decide +kernel
theorem dX7_parish_53 : decode cX7_parish 53 = .ok (.iinc 1 1, 3) := by decide +kernel
theorem dX7_parish_56 : decode cX7_parish 56 = .ok (.goto (-32), 3) := by decide +kernel
theorem dX7_parish_59 : decode cX7_parish 59 = .ok (.aload_n 0, 1) := by decide +kernel
theorem dX7_parish_60 : decode cX7_parish 60 = .ok (.aload_n 0, 1) := by decide +kernel
theorem dX7_parish_61 : decode cX7_parish 61 = .ok (.getfield 194, 3) := by decide +kernel
theorem dX7_parish_64 : decode cX7_parish 64 = .ok (.ifCond .ne 14, 3) := by decide +kernel
theorem dX7_parish_67 : decode cX7_parish 67 = .ok (.aload_n 0, 1) := by decide +kernel
theorem dX7_parish_68 : decode cX7_parish 68 = .ok (.getfield 182, 3) := by decide +kernel
theorem dX7_parish_71 : decode cX7_parish 71 = .ok (.aload_n 0, 1) := by decide +kernel
theorem dX7_parish_72 : decode cX7_parish 72 = .ok (.getfield 168, 3) := by decide +kernel
theorem dX7_parish_75 : decode cX7_parish 75 = .ok (.if_icmp .ge 7, 3) := by decide +kernel
theorem dX7_parish_78 : decode cX7_parish 78 = .ok (.iconst 1, 1) := by decide +kernel
theorem dX7_parish_79 : decode cX7_parish 79 = .ok (.goto 4, 3) := by decide +kernel
theorem dX7_parish_82 : decode cX7_parish 82 = .ok (.iconst 0, 1) := by decide +kernel
theorem dX7_parish_83 : decode cX7_parish 83 = .ok (.putfield 194, 3) := by decide +kernel
theorem dX7_parish_86 : decode cX7_parish 86 = .ok (.aload_n 0, 1) := by decide +kernel
theorem dX7_parish_87 : decode cX7_parish 87 = .ok (.getfield 194, 3) := by decide +kernel
theorem dX7_parish_90 : decode cX7_parish 90 = .ok (.ifCond .eq 7, 3) := by decide +kernel
theorem dX7_parish_93 : decode cX7_parish 93 = .ok (.aload_n 0, 1) := by decide +kernel
theorem dX7_parish_94 : decode cX7_parish 94 = .ok (.invokevirtual 272, 3) := by decide +kernel
theorem dX7_parish_97 : decode cX7_parish 97 = .ok (.aload_n 0, 1) := by decide +kernel
theorem dX7_parish_98 : decode cX7_parish 98 = .ok (.iconst 0, 1) := by decide +kernel
theorem dX7_parish_99 : decode cX7_parish 99 = .ok (.putfield 168, 3) := by decide +kernel
theorem dX7_parish_102 : decode cX7_parish 102 = .ok (.aload_n 0, 1) := by decide +kernel
theorem dX7_parish_103 : decode cX7_parish 103 = .ok (.getfield 194, 3) := by decide +kernel
theorem dX7_parish_106 : decode cX7_parish 106 = .ok (.ifCond .eq 12, 3) := by decide +kernel
theorem dX7_parish_109 : decode cX7_parish 109 = .ok (.iconst (-1), 1) := by decide +kernel
theorem dX7_parish_110 : decode cX7_parish 110 = .ok (.aload_n 0, 1) := by decide +kernel
theorem dX7_parish_111 : decode cX7_parish 111 = .ok (.getfield 182, 3) := by decide +kernel
theorem dX7_parish_114 : decode cX7_parish 114 = .ok (.isub, 1) := by decide +kernel
theorem dX7_parish_115 : decode cX7_parish 115 = .ok (.goto 4, 3) := by decide +kernel
theorem dX7_parish_118 : decode cX7_parish 118 = .ok (.iload_n 1, 1) := by decide +kernel
theorem dX7_parish_119 : decode cX7_parish 119 = .ok (.ireturn, 1) := by decide +kernel
set_option maxRecDepth 20000 in
theorem ggX7_isOne_X7_in : GoodIn wsX7_isOne wsX7_in := goodIn_r _ [5] rfl (by decide +kernel)
set_option maxRecDepth 20000 in
theorem gX7_isOne_X7_in : GoodIn wsX7_isOne (va_wsS RX7 51 yX7_in wsX7_in) := goodIn_app (goodIn_of _ (by decide +kernel)) ggX7_isOne_X7_in
theorem dX7_isOne_0 : decode cX7_isOne 0 = .ok (.iload_n 0, 1) := by decide +kernel
theorem dX7_isOne_1 : decode cX7_isOne 1 = .ok (.i2l, 1) := by decide +kernel
theorem dX7_isOne_2 : decode cX7_isOne 2 = .ok (.lconst 0, 1) := by decide +kernel
theorem dX7_isOne_3 : decode cX7_isOne 3 = .ok (.ldc2_w 49, 3) := by decide +kernel
theorem dX7_isOne_6 : decode cX7_isOne 6 = .ok (.invokestatic 51, 3) := by decide +kernel
theorem dX7_isOne_9 : decode cX7_isOne 9 = .ok (.ireturn, 1) := by decide +kernel
set_option maxRecDepth 20000 in
theorem ggX7_sheet_X7_isOne : GoodIn wsX7_sheet wsX7_isOne := goodIn_r _ [9, 10, 11, 12, 8, 13] rfl (by decide +kernel)
set_option maxRecDepth 20000 in
theorem gX7_sheet_X7_isOne : GoodIn wsX7_sheet (va_wsS RX7 275 yX7_isOne wsX7_isOne) := goodIn_app (goodIn_of _ (by decide +kernel)) ggX7_sheet_X7_isOne
set_option maxRecDepth 20000 in
theorem ggX7_sheet_X7_finds : GoodIn wsX7_sheet wsX7_finds := goodIn_r _ [17, 18, 1, 19, 20, 21, 22, 23, 24, 25, 26, 27, 28, 29, 30, 31, 32, 33, 34, 35, 36] rfl (by decide +kernel)
set_option maxRecDepth 20000 in
theorem gX7_sheet_X7_finds : GoodIn wsX7_sheet (wsV RX7 78 RX7 yX7_finds wsX7_finds) := goodIn_app (goodIn_of _ (by decide +kernel)) ggX7_sheet_X7_finds
theorem dX7_sheet_0 : decode cX7_sheet 0 = .ok (.iload_n 1, 1) := by decide +kernel
theorem dX7_sheet_1 : decode cX7_sheet 1 = .ok (.invokestatic 275, 3) := by decide +kernel
theorem dX7_sheet_4 : decode cX7_sheet 4 = .ok (.ifCond .eq 25, 3) := by decide +kernel
theorem dX7_sheet_7 : decode cX7_sheet 7 = .ok (.iload_n 2, 1) := by decide +kernel
theorem dX7_sheet_8 : decode cX7_sheet 8 = .ok (.ifCond .eq 28, 3) := by decide +kernel
theorem dX7_sheet_11 : decode cX7_sheet 11 = .ok (.iload_n 2, 1) := by decide +kernel
theorem dX7_sheet_12 : decode cX7_sheet 12 = .ok (.bipush 8, 2) := by decide +kernel
theorem dX7_sheet_14 : decode cX7_sheet 14 = .ok (.if_icmp .eq 22, 3) := by decide +kernel
theorem dX7_sheet_17 : decode cX7_sheet 17 = .ok (.iload_n 2, 1) := by decide +kernel
theorem dX7_sheet_18 : decode cX7_sheet 18 = .ok (.bipush 16, 2) := by decide +kernel
theorem dX7_sheet_20 : decode cX7_sheet 20 = .ok (.if_icmp .eq 16, 3) := by decide +kernel
theorem dX7_sheet_23 : decode cX7_sheet 23 = .ok (.iload_n 2, 1) := by decide +kernel
theorem dX7_sheet_24 : decode cX7_sheet 24 = .ok (.bipush 64, 2) := by decide +kernel
theorem dX7_sheet_26 : decode cX7_sheet 26 = .ok (.if_icmp .eq 10, 3) := by decide +kernel
theorem dX7_sheet_29 : decode cX7_sheet 29 = .ok (.aload_n 0, 1) := by decide +kernel
theorem dX7_sheet_30 : decode cX7_sheet 30 = .ok (.ldc 48, 2) := by decide +kernel
theorem dX7_sheet_32 : decode cX7_sheet 32 = .ok (.invokevirtual 78, 3) := by decide +kernel
theorem dX7_sheet_35 : decode cX7_sheet 35 = .ok (.ireturn, 1) := by decide +kernel
theorem dX7_sheet_36 : decode cX7_sheet 36 = .ok (.iload_n 3, 1) := by decide +kernel
theorem dX7_sheet_37 : decode cX7_sheet 37 = .ok (.ifCond .ge 11, 3) := by decide +kernel
theorem dX7_sheet_40 : decode cX7_sheet 40 = .ok (.aload_n 0, 1) := by decide +kernel
theorem dX7_sheet_41 : decode cX7_sheet 41 = .ok (.ldc_w 278, 3) := by decide +kernel
theorem dX7_sheet_44 : decode cX7_sheet 44 = .ok (.invokevirtual 78, 3) := by decide +kernel
theorem dX7_sheet_47 : decode cX7_sheet 47 = .ok (.ireturn, 1) := by decide +kernel
theorem dX7_sheet_48 : decode cX7_sheet 48 = .ok (.iload_n 3, 1) := by decide +kernel
theorem dX7_sheet_49 : decode cX7_sheet 49 = .ok (.bipush 40, 2) := by decide +kernel
theorem dX7_sheet_51 : decode cX7_sheet 51 = .ok (.if_icmp .le 10, 3) := by decide +kernel
theorem dX7_sheet_54 : decode cX7_sheet 54 = .ok (.aload_n 0, 1) := by decide +kernel
theorem dX7_sheet_55 : decode cX7_sheet 55 = .ok (.ldc 48, 2) := by decide +kernel
theorem dX7_sheet_57 : decode cX7_sheet 57 = .ok (.invokevirtual 78, 3) := by decide +kernel
theorem dX7_sheet_60 : decode cX7_sheet 60 = .ok (.ireturn, 1) := by decide +kernel
theorem dX7_sheet_61 : decode cX7_sheet 61 = .ok (.aload_n 0, 1) := by decide +kernel
theorem dX7_sheet_62 : decode cX7_sheet 62 = .ok (.getfield 31, 3) := by decide +kernel
theorem dX7_sheet_65 : decode cX7_sheet 65 = .ok (.iload_n 1, 1) := by decide +kernel
theorem dX7_sheet_66 : decode cX7_sheet 66 = .ok (.iload_n 2, 1) := by decide +kernel
theorem dX7_sheet_67 : decode cX7_sheet 67 = .ok (.iastore, 1) := by decide +kernel
theorem dX7_sheet_68 : decode cX7_sheet 68 = .ok (.aload_n 0, 1) := by decide +kernel
theorem dX7_sheet_69 : decode cX7_sheet 69 = .ok (.getfield 34, 3) := by decide +kernel
theorem dX7_sheet_72 : decode cX7_sheet 72 = .ok (.iload_n 1, 1) := by decide +kernel
theorem dX7_sheet_73 : decode cX7_sheet 73 = .ok (.iload_n 2, 1) := by decide +kernel
theorem dX7_sheet_74 : decode cX7_sheet 74 = .ok (.ifCond .ne 7, 3) := by decide +kernel
theorem dX7_sheet_77 : decode cX7_sheet 77 = .ok (.iconst 0, 1) := by decide +kernel
theorem dX7_sheet_78 : decode cX7_sheet 78 = .ok (.goto 4, 3) := by decide +kernel
theorem dX7_sheet_81 : decode cX7_sheet 81 = .ok (.iload_n 3, 1) := by decide +kernel
theorem dX7_sheet_82 : decode cX7_sheet 82 = .ok (.iastore, 1) := by decide +kernel
theorem dX7_sheet_83 : decode cX7_sheet 83 = .ok (.iconst 0, 1) := by decide +kernel
theorem dX7_sheet_84 : decode cX7_sheet 84 = .ok (.istore 4, 2) := by decide +kernel
theorem dX7_sheet_86 : decode cX7_sheet 86 = .ok (.iload 4, 2) := by decide +kernel
theorem dX7_sheet_88 : decode cX7_sheet 88 = .ok (.bipush 40, 2) := by decide +kernel
theorem dX7_sheet_90 : decode cX7_sheet 90 = .ok (.if_icmp .ge 22, 3) := by decide +kernel
theorem dX7_sheet_93 : decode cX7_sheet 93 = .ok (.aload_n 0, 1) := by decide +kernel
theorem dX7_sheet_94 : decode cX7_sheet 94 = .ok (.getfield 37, 3) := by decide +kernel
theorem dX7_sheet_97 : decode cX7_sheet 97 = .ok (.bipush 40, 2) := by decide +kernel
theorem dX7_sheet_99 : decode cX7_sheet 99 = .ok (.iload_n 1, 1) := by decide +kernel
theorem dX7_sheet_100 : decode cX7_sheet 100 = .ok (.imul, 1) := by decide +kernel
theorem dX7_sheet_101 : decode cX7_sheet 101 = .ok (.iload 4, 2) := by decide +kernel
theorem dX7_sheet_103 : decode cX7_sheet 103 = .ok (.iadd, 1) := by decide +kernel
theorem dX7_sheet_104 : decode cX7_sheet 104 = .ok (.lconst 0, 1) := by decide +kernel
theorem dX7_sheet_105 : decode cX7_sheet 105 = .ok (.lastore, 1) := by decide +kernel
theorem dX7_sheet_106 : decode cX7_sheet 106 = .ok (.iinc 4 1, 3) := by decide +kernel
theorem dX7_sheet_109 : decode cX7_sheet 109 = .ok (.goto (-23), 3) := by decide +kernel
theorem dX7_sheet_112 : decode cX7_sheet 112 = .ok (.aload_n 0, 1) := by decide +kernel
theorem dX7_sheet_113 : decode cX7_sheet 113 = .ok (.getfield 34, 3) := by decide +kernel
theorem dX7_sheet_116 : decode cX7_sheet 116 = .ok (.iload_n 1, 1) := by decide +kernel
theorem dX7_sheet_117 : decode cX7_sheet 117 = .ok (.iaload, 1) := by decide +kernel
theorem dX7_sheet_118 : decode cX7_sheet 118 = .ok (.ireturn, 1) := by decide +kernel
theorem dX7_narrowed_0 : decode cX7_narrowed 0 = .ok (.iload_n 0, 1) := by decide +kernel
theorem dX7_narrowed_1 : decode cX7_narrowed 1 = .ok (.bipush 8, 2) := by decide +kernel
theorem dX7_narrowed_3 : decode cX7_narrowed 3 = .ok (.if_icmp .ne 10, 3) := by decide +kernel
theorem dX7_narrowed_6 : decode cX7_narrowed 6 = .ok (.lload_n 1, 1) := by decide +kernel
theorem dX7_narrowed_7 : decode cX7_narrowed 7 = .ok (.l2i, 1) := by decide +kernel
theorem dX7_narrowed_8 : decode cX7_narrowed 8 = .ok (.i2b, 1) := by decide +kernel
theorem dX7_narrowed_9 : decode cX7_narrowed 9 = .ok (.i2l, 1) := by decide +kernel
theorem dX7_narrowed_10 : decode cX7_narrowed 10 = .ok (.goto 17, 3) := by decide +kernel
theorem dX7_narrowed_13 : decode cX7_narrowed 13 = .ok (.iload_n 0, 1) := by decide +kernel
theorem dX7_narrowed_14 : decode cX7_narrowed 14 = .ok (.bipush 16, 2) := by decide +kernel
theorem dX7_narrowed_16 : decode cX7_narrowed 16 = .ok (.if_icmp .ne 10, 3) := by decide +kernel
theorem dX7_narrowed_19 : decode cX7_narrowed 19 = .ok (.lload_n 1, 1) := by decide +kernel
theorem dX7_narrowed_20 : decode cX7_narrowed 20 = .ok (.l2i, 1) := by decide +kernel
theorem dX7_narrowed_21 : decode cX7_narrowed 21 = .ok (.i2s, 1) := by decide +kernel
theorem dX7_narrowed_22 : decode cX7_narrowed 22 = .ok (.i2l, 1) := by decide +kernel
theorem dX7_narrowed_23 : decode cX7_narrowed 23 = .ok (.goto 4, 3) := by decide +kernel
theorem dX7_narrowed_26 : decode cX7_narrowed 26 = .ok (.lload_n 1, 1) := by decide +kernel
theorem dX7_narrowed_27 : decode cX7_narrowed 27 = .ok (.lreturn, 1) := by decide +kernel
set_option maxRecDepth 20000 in
theorem ggX7_wrongSheet_X7_isOne : GoodIn wsX7_wrongSheet wsX7_isOne := goodIn_r _ [7, 8, 9, 10, 6, 11] rfl (by decide +kernel)
set_option maxRecDepth 20000 in
theorem gX7_wrongSheet_X7_isOne : GoodIn wsX7_wrongSheet (va_wsS RX7 275 yX7_isOne wsX7_isOne) := goodIn_app (goodIn_of _ (by decide +kernel)) ggX7_wrongSheet_X7_isOne
theorem dX7_wrongSheet_0 : decode cX7_wrongSheet 0 = .ok (.iload_n 1, 1) := by decide +kernel
theorem dX7_wrongSheet_1 : decode cX7_wrongSheet 1 = .ok (.invokestatic 275, 3) := by decide +kernel
theorem dX7_wrongSheet_4 : decode cX7_wrongSheet 4 = .ok (.ifCond .ne 8, 3) := by decide +kernel
theorem dX7_wrongSheet_7 : decode cX7_wrongSheet 7 = .ok (.ldc 48, 2) := by decide +kernel
theorem dX7_wrongSheet_9 : decode cX7_wrongSheet 9 = .ok (.goto 19, 3) := by decide +kernel
theorem dX7_wrongSheet_12 : decode cX7_wrongSheet 12 = .ok (.aload_n 0, 1) := by decide +kernel
theorem dX7_wrongSheet_13 : decode cX7_wrongSheet 13 = .ok (.getfield 31, 3) := by decide +kernel
theorem dX7_wrongSheet_16 : decode cX7_wrongSheet 16 = .ok (.iload_n 1, 1) := by decide +kernel
theorem dX7_wrongSheet_17 : decode cX7_wrongSheet 17 = .ok (.iaload, 1) := by decide +kernel
theorem dX7_wrongSheet_18 : decode cX7_wrongSheet 18 = .ok (.ifCond .ne 9, 3) := by decide +kernel
theorem dX7_wrongSheet_21 : decode cX7_wrongSheet 21 = .ok (.ldc_w 279, 3) := by decide +kernel
theorem dX7_wrongSheet_24 : decode cX7_wrongSheet 24 = .ok (.goto 4, 3) := by decide +kernel
theorem dX7_wrongSheet_27 : decode cX7_wrongSheet 27 = .ok (.iconst 0, 1) := by decide +kernel
theorem dX7_wrongSheet_28 : decode cX7_wrongSheet 28 = .ok (.ireturn, 1) := by decide +kernel
set_option maxRecDepth 20000 in
theorem ggX7_write_X7_wrongSheet : GoodIn wsX7_write wsX7_wrongSheet := goodIn_r _ [9, 2, 4, 10, 11, 12, 8, 13, 14, 15, 16, 17, 26, 27, 28, 29, 30, 31, 32, 33, 34, 35, 36, 37, 38, 39, 40, 41, 42, 43] rfl (by decide +kernel)
set_option maxRecDepth 20000 in
theorem gX7_write_X7_wrongSheet : GoodIn wsX7_write (wsV RX7 280 RX7 yX7_wrongSheet wsX7_wrongSheet) := goodIn_app (goodIn_of _ (by decide +kernel)) ggX7_write_X7_wrongSheet
set_option maxRecDepth 20000 in
theorem ggX7_write_X7_finds : GoodIn wsX7_write wsX7_finds := goodIn_r _ [21, 22, 2, 26, 27, 28, 29, 30, 31, 32, 33, 34, 35, 36, 37, 38, 39, 40, 41, 42, 43] rfl (by decide +kernel)
set_option maxRecDepth 20000 in
theorem gX7_write_X7_finds : GoodIn wsX7_write (wsV RX7 78 RX7 yX7_finds wsX7_finds) := goodIn_app (goodIn_of _ (by decide +kernel)) ggX7_write_X7_finds
set_option maxRecDepth 20000 in
theorem ggX7_write_X7_in : GoodIn wsX7_write wsX7_in := goodIn_r _ [17] rfl (by decide +kernel)
set_option maxRecDepth 20000 in
theorem gX7_write_X7_in : GoodIn wsX7_write (va_wsS RX7 51 yX7_in wsX7_in) := goodIn_app (goodIn_of _ (by decide +kernel)) ggX7_write_X7_in
set_option maxRecDepth 20000 in
theorem ggX7_write_X7_narrowed : GoodIn wsX7_write wsX7_narrowed := goodIn_r _ [25] rfl (by decide +kernel)
set_option maxRecDepth 20000 in
theorem gX7_write_X7_narrowed : GoodIn wsX7_write (va_wsS RX7 283 yX7_narrowed wsX7_narrowed) := goodIn_app (goodIn_of _ (by decide +kernel)) ggX7_write_X7_narrowed
theorem dX7_write_0 : decode cX7_write 0 = .ok (.aload_n 0, 1) := by decide +kernel
theorem dX7_write_1 : decode cX7_write 1 = .ok (.iload_n 1, 1) := by decide +kernel
theorem dX7_write_2 : decode cX7_write 2 = .ok (.invokevirtual 280, 3) := by decide +kernel
theorem dX7_write_5 : decode cX7_write 5 = .ok (.istore 5, 2) := by decide +kernel
theorem dX7_write_7 : decode cX7_write 7 = .ok (.iload 5, 2) := by decide +kernel
theorem dX7_write_9 : decode cX7_write 9 = .ok (.ifCond .eq 11, 3) := by decide +kernel
theorem dX7_write_12 : decode cX7_write 12 = .ok (.aload_n 0, 1) := by decide +kernel
theorem dX7_write_13 : decode cX7_write 13 = .ok (.iload 5, 2) := by decide +kernel
theorem dX7_write_15 : decode cX7_write 15 = .ok (.invokevirtual 78, 3) := by decide +kernel
theorem dX7_write_18 : decode cX7_write 18 = .ok (.i2l, 1) := by decide +kernel
theorem dX7_write_19 : decode cX7_write 19 = .ok (.lreturn, 1) := by decide +kernel
theorem dX7_write_20 : decode cX7_write 20 = .ok (.iload_n 2, 1) := by decide +kernel
theorem dX7_write_21 : decode cX7_write 21 = .ok (.i2l, 1) := by decide +kernel
theorem dX7_write_22 : decode cX7_write 22 = .ok (.lconst 0, 1) := by decide +kernel
theorem dX7_write_23 : decode cX7_write 23 = .ok (.aload_n 0, 1) := by decide +kernel
theorem dX7_write_24 : decode cX7_write 24 = .ok (.getfield 34, 3) := by decide +kernel
theorem dX7_write_27 : decode cX7_write 27 = .ok (.iload_n 1, 1) := by decide +kernel
theorem dX7_write_28 : decode cX7_write 28 = .ok (.iaload, 1) := by decide +kernel
theorem dX7_write_29 : decode cX7_write 29 = .ok (.iconst 1, 1) := by decide +kernel
theorem dX7_write_30 : decode cX7_write 30 = .ok (.isub, 1) := by decide +kernel
theorem dX7_write_31 : decode cX7_write 31 = .ok (.i2l, 1) := by decide +kernel
theorem dX7_write_32 : decode cX7_write 32 = .ok (.invokestatic 51, 3) := by decide +kernel
theorem dX7_write_35 : decode cX7_write 35 = .ok (.ifCond .ne 11, 3) := by decide +kernel
theorem dX7_write_38 : decode cX7_write 38 = .ok (.aload_n 0, 1) := by decide +kernel
theorem dX7_write_39 : decode cX7_write 39 = .ok (.ldc 48, 2) := by decide +kernel
theorem dX7_write_41 : decode cX7_write 41 = .ok (.invokevirtual 78, 3) := by decide +kernel
theorem dX7_write_44 : decode cX7_write 44 = .ok (.i2l, 1) := by decide +kernel
theorem dX7_write_45 : decode cX7_write 45 = .ok (.lreturn, 1) := by decide +kernel
theorem dX7_write_46 : decode cX7_write 46 = .ok (.aload_n 0, 1) := by decide +kernel
theorem dX7_write_47 : decode cX7_write 47 = .ok (.getfield 37, 3) := by decide +kernel
theorem dX7_write_50 : decode cX7_write 50 = .ok (.bipush 40, 2) := by decide +kernel
theorem dX7_write_52 : decode cX7_write 52 = .ok (.iload_n 1, 1) := by decide +kernel
theorem dX7_write_53 : decode cX7_write 53 = .ok (.imul, 1) := by decide +kernel
theorem dX7_write_54 : decode cX7_write 54 = .ok (.iload_n 2, 1) := by decide +kernel
theorem dX7_write_55 : decode cX7_write 55 = .ok (.iadd, 1) := by decide +kernel
theorem dX7_write_56 : decode cX7_write 56 = .ok (.laload, 1) := by decide +kernel
theorem dX7_write_57 : decode cX7_write 57 = .ok (.lstore 6, 2) := by decide +kernel
theorem dX7_write_59 : decode cX7_write 59 = .ok (.aload_n 0, 1) := by decide +kernel
theorem dX7_write_60 : decode cX7_write 60 = .ok (.getfield 37, 3) := by decide +kernel
theorem dX7_write_63 : decode cX7_write 63 = .ok (.bipush 40, 2) := by decide +kernel
theorem dX7_write_65 : decode cX7_write 65 = .ok (.iload_n 1, 1) := by decide +kernel
theorem dX7_write_66 : decode cX7_write 66 = .ok (.imul, 1) := by decide +kernel
theorem dX7_write_67 : decode cX7_write 67 = .ok (.iload_n 2, 1) := by decide +kernel
theorem dX7_write_68 : decode cX7_write 68 = .ok (.iadd, 1) := by decide +kernel
theorem dX7_write_69 : decode cX7_write 69 = .ok (.aload_n 0, 1) := by decide +kernel
theorem dX7_write_70 : decode cX7_write 70 = .ok (.getfield 31, 3) := by decide +kernel
theorem dX7_write_73 : decode cX7_write 73 = .ok (.iload_n 1, 1) := by decide +kernel
theorem dX7_write_74 : decode cX7_write 74 = .ok (.iaload, 1) := by decide +kernel
theorem dX7_write_75 : decode cX7_write 75 = .ok (.lload_n 3, 1) := by decide +kernel
theorem dX7_write_76 : decode cX7_write 76 = .ok (.invokestatic 283, 3) := by decide +kernel
theorem dX7_write_79 : decode cX7_write 79 = .ok (.lastore, 1) := by decide +kernel
theorem dX7_write_80 : decode cX7_write 80 = .ok (.lload 6, 2) := by decide +kernel
theorem dX7_write_82 : decode cX7_write 82 = .ok (.lreturn, 1) := by decide +kernel
set_option maxRecDepth 20000 in
theorem ggX7_copy_X7_isOne : GoodIn wsX7_copy wsX7_isOne := goodIn_r _ [11, 12, 13, 14, 10, 15] rfl (by decide +kernel)
set_option maxRecDepth 20000 in
theorem gX7_copy_X7_isOne : GoodIn wsX7_copy (va_wsS RX7 275 yX7_isOne wsX7_isOne) := goodIn_app (goodIn_of _ (by decide +kernel)) ggX7_copy_X7_isOne
set_option maxRecDepth 20000 in
theorem ggX7_copy_X7_finds : GoodIn wsX7_copy wsX7_finds := goodIn_r _ [19, 20, 1, 21, 22, 23, 24, 25, 26, 27, 28, 29, 30, 31, 32, 33, 34, 35, 36, 37, 38] rfl (by decide +kernel)
set_option maxRecDepth 20000 in
theorem gX7_copy_X7_finds : GoodIn wsX7_copy (wsV RX7 78 RX7 yX7_finds wsX7_finds) := goodIn_app (goodIn_of _ (by decide +kernel)) ggX7_copy_X7_finds
theorem dX7_copy_0 : decode cX7_copy 0 = .ok (.iload_n 1, 1) := by decide +kernel
theorem dX7_copy_1 : decode cX7_copy 1 = .ok (.invokestatic 275, 3) := by decide +kernel
theorem dX7_copy_4 : decode cX7_copy 4 = .ok (.ifCond .eq 10, 3) := by decide +kernel
theorem dX7_copy_7 : decode cX7_copy 7 = .ok (.iload_n 3, 1) := by decide +kernel
theorem dX7_copy_8 : decode cX7_copy 8 = .ok (.invokestatic 275, 3) := by decide +kernel
theorem dX7_copy_11 : decode cX7_copy 11 = .ok (.ifCond .ne 10, 3) := by decide +kernel
theorem dX7_copy_14 : decode cX7_copy 14 = .ok (.aload_n 0, 1) := by decide +kernel
theorem dX7_copy_15 : decode cX7_copy 15 = .ok (.ldc 48, 2) := by decide +kernel
theorem dX7_copy_17 : decode cX7_copy 17 = .ok (.invokevirtual 78, 3) := by decide +kernel
theorem dX7_copy_20 : decode cX7_copy 20 = .ok (.ireturn, 1) := by decide +kernel
theorem dX7_copy_21 : decode cX7_copy 21 = .ok (.aload_n 0, 1) := by decide +kernel
theorem dX7_copy_22 : decode cX7_copy 22 = .ok (.getfield 31, 3) := by decide +kernel
theorem dX7_copy_25 : decode cX7_copy 25 = .ok (.iload_n 1, 1) := by decide +kernel
theorem dX7_copy_26 : decode cX7_copy 26 = .ok (.iaload, 1) := by decide +kernel
theorem dX7_copy_27 : decode cX7_copy 27 = .ok (.ifCond .eq 12, 3) := by decide +kernel
theorem dX7_copy_30 : decode cX7_copy 30 = .ok (.aload_n 0, 1) := by decide +kernel
theorem dX7_copy_31 : decode cX7_copy 31 = .ok (.getfield 31, 3) := by decide +kernel
theorem dX7_copy_34 : decode cX7_copy 34 = .ok (.iload_n 3, 1) := by decide +kernel
theorem dX7_copy_35 : decode cX7_copy 35 = .ok (.iaload, 1) := by decide +kernel
theorem dX7_copy_36 : decode cX7_copy 36 = .ok (.ifCond .ne 11, 3) := by decide +kernel
theorem dX7_copy_39 : decode cX7_copy 39 = .ok (.aload_n 0, 1) := by decide +kernel
theorem dX7_copy_40 : decode cX7_copy 40 = .ok (.ldc_w 279, 3) := by decide +kernel
theorem dX7_copy_43 : decode cX7_copy 43 = .ok (.invokevirtual 78, 3) := by decide +kernel
theorem dX7_copy_46 : decode cX7_copy 46 = .ok (.ireturn, 1) := by decide +kernel
theorem dX7_copy_47 : decode cX7_copy 47 = .ok (.aload_n 0, 1) := by decide +kernel
theorem dX7_copy_48 : decode cX7_copy 48 = .ok (.getfield 31, 3) := by decide +kernel
theorem dX7_copy_51 : decode cX7_copy 51 = .ok (.iload_n 1, 1) := by decide +kernel
theorem dX7_copy_52 : decode cX7_copy 52 = .ok (.iaload, 1) := by decide +kernel
theorem dX7_copy_53 : decode cX7_copy 53 = .ok (.aload_n 0, 1) := by decide +kernel
theorem dX7_copy_54 : decode cX7_copy 54 = .ok (.getfield 31, 3) := by decide +kernel
theorem dX7_copy_57 : decode cX7_copy 57 = .ok (.iload_n 3, 1) := by decide +kernel
theorem dX7_copy_58 : decode cX7_copy 58 = .ok (.iaload, 1) := by decide +kernel
theorem dX7_copy_59 : decode cX7_copy 59 = .ok (.if_icmp .eq 10, 3) := by decide +kernel
theorem dX7_copy_62 : decode cX7_copy 62 = .ok (.aload_n 0, 1) := by decide +kernel
theorem dX7_copy_63 : decode cX7_copy 63 = .ok (.ldc 112, 2) := by decide +kernel
theorem dX7_copy_65 : decode cX7_copy 65 = .ok (.invokevirtual 78, 3) := by decide +kernel
theorem dX7_copy_68 : decode cX7_copy 68 = .ok (.ireturn, 1) := by decide +kernel
theorem dX7_copy_69 : decode cX7_copy 69 = .ok (.iload_n 2, 1) := by decide +kernel
theorem dX7_copy_70 : decode cX7_copy 70 = .ok (.ifCond .lt 40, 3) := by decide +kernel
theorem dX7_copy_73 : decode cX7_copy 73 = .ok (.iload 4, 2) := by decide +kernel
theorem dX7_copy_75 : decode cX7_copy 75 = .ok (.ifCond .lt 35, 3) := by decide +kernel
theorem dX7_copy_78 : decode cX7_copy 78 = .ok (.iload 5, 2) := by decide +kernel
theorem dX7_copy_80 : decode cX7_copy 80 = .ok (.ifCond .lt 30, 3) := by decide +kernel
theorem dX7_copy_83 : decode cX7_copy 83 = .ok (.iload 5, 2) := by decide +kernel
theorem dX7_copy_85 : decode cX7_copy 85 = .ok (.aload_n 0, 1) := by decide +kernel
theorem dX7_copy_86 : decode cX7_copy 86 = .ok (.getfield 34, 3) := by decide +kernel
theorem dX7_copy_89 : decode cX7_copy 89 = .ok (.iload_n 1, 1) := by decide +kernel
theorem dX7_copy_90 : decode cX7_copy 90 = .ok (.iaload, 1) := by decide +kernel
theorem dX7_copy_91 : decode cX7_copy 91 = .ok (.iload_n 2, 1) := by decide +kernel
theorem dX7_copy_92 : decode cX7_copy 92 = .ok (.isub, 1) := by decide +kernel
theorem dX7_copy_93 : decode cX7_copy 93 = .ok (.if_icmp .gt 17, 3) := by decide +kernel
theorem dX7_copy_96 : decode cX7_copy 96 = .ok (.iload 5, 2) := by decide +kernel
theorem dX7_copy_98 : decode cX7_copy 98 = .ok (.aload_n 0, 1) := by decide +kernel
theorem dX7_copy_99 : decode cX7_copy 99 = .ok (.getfield 34, 3) := by decide +kernel
theorem dX7_copy_102 : decode cX7_copy 102 = .ok (.iload_n 3, 1) := by decide +kernel
theorem dX7_copy_103 : decode cX7_copy 103 = .ok (.iaload, 1) := by decide +kernel
theorem dX7_copy_104 : decode cX7_copy 104 = .ok (.iload 4, 2) := by decide +kernel
theorem dX7_copy_106 : decode cX7_copy 106 = .ok (.isub, 1) := by decide +kernel
theorem dX7_copy_107 : decode cX7_copy 107 = .ok (.if_icmp .le 10, 3) := by decide +kernel
theorem dX7_copy_110 : decode cX7_copy 110 = .ok (.aload_n 0, 1) := by decide +kernel
theorem dX7_copy_111 : decode cX7_copy 111 = .ok (.ldc 48, 2) := by decide +kernel
theorem dX7_copy_113 : decode cX7_copy 113 = .ok (.invokevirtual 78, 3) := by decide +kernel
theorem dX7_copy_116 : decode cX7_copy 116 = .ok (.ireturn, 1) := by decide +kernel
theorem dX7_copy_117 : decode cX7_copy 117 = .ok (.iconst 0, 1) := by decide +kernel
theorem dX7_copy_118 : decode cX7_copy 118 = .ok (.istore 6, 2) := by decide +kernel
theorem dX7_copy_120 : decode cX7_copy 120 = .ok (.iload 6, 2) := by decide +kernel
theorem dX7_copy_122 : decode cX7_copy 122 = .ok (.iload 5, 2) := by decide +kernel
theorem dX7_copy_124 : decode cX7_copy 124 = .ok (.if_icmp .ge 30, 3) := by decide +kernel
theorem dX7_copy_127 : decode cX7_copy 127 = .ok (.aload_n 0, 1) := by decide +kernel
theorem dX7_copy_128 : decode cX7_copy 128 = .ok (.getfield 41, 3) := by decide +kernel
theorem dX7_copy_131 : decode cX7_copy 131 = .ok (.iload 6, 2) := by decide +kernel
theorem dX7_copy_133 : decode cX7_copy 133 = .ok (.aload_n 0, 1) := by decide +kernel
theorem dX7_copy_134 : decode cX7_copy 134 = .ok (.getfield 37, 3) := by decide +kernel
theorem dX7_copy_137 : decode cX7_copy 137 = .ok (.bipush 40, 2) := by decide +kernel
theorem dX7_copy_139 : decode cX7_copy 139 = .ok (.iload_n 1, 1) := by decide +kernel
theorem dX7_copy_140 : decode cX7_copy 140 = .ok (.imul, 1) := by decide +kernel
theorem dX7_copy_141 : decode cX7_copy 141 = .ok (.iload_n 2, 1) := by decide +kernel
theorem dX7_copy_142 : decode cX7_copy 142 = .ok (.iadd, 1) := by decide +kernel
theorem dX7_copy_143 : decode cX7_copy 143 = .ok (.iload 6, 2) := by decide +kernel
theorem dX7_copy_145 : decode cX7_copy 145 = .ok (.iadd, 1) := by decide +kernel
theorem dX7_copy_146 : decode cX7_copy 146 = .ok (.laload, 1) := by decide +kernel
theorem dX7_copy_147 : decode cX7_copy 147 = .ok (.lastore, 1) := by decide +kernel
theorem dX7_copy_148 : decode cX7_copy 148 = .ok (.iinc 6 1, 3) := by decide +kernel
theorem dX7_copy_151 : decode cX7_copy 151 = .ok (.goto (-31), 3) := by decide +kernel
theorem dX7_copy_154 : decode cX7_copy 154 = .ok (.iconst 0, 1) := by decide +kernel
theorem dX7_copy_155 : decode cX7_copy 155 = .ok (.istore 6, 2) := by decide +kernel
theorem dX7_copy_157 : decode cX7_copy 157 = .ok (.iload 6, 2) := by decide +kernel
theorem dX7_copy_159 : decode cX7_copy 159 = .ok (.iload 5, 2) := by decide +kernel
theorem dX7_copy_161 : decode cX7_copy 161 = .ok (.if_icmp .ge 31, 3) := by decide +kernel
theorem dX7_copy_164 : decode cX7_copy 164 = .ok (.aload_n 0, 1) := by decide +kernel
theorem dX7_copy_165 : decode cX7_copy 165 = .ok (.getfield 37, 3) := by decide +kernel
theorem dX7_copy_168 : decode cX7_copy 168 = .ok (.bipush 40, 2) := by decide +kernel
theorem dX7_copy_170 : decode cX7_copy 170 = .ok (.iload_n 3, 1) := by decide +kernel
theorem dX7_copy_171 : decode cX7_copy 171 = .ok (.imul, 1) := by decide +kernel
theorem dX7_copy_172 : decode cX7_copy 172 = .ok (.iload 4, 2) := by decide +kernel
theorem dX7_copy_174 : decode cX7_copy 174 = .ok (.iadd, 1) := by decide +kernel
theorem dX7_copy_175 : decode cX7_copy 175 = .ok (.iload 6, 2) := by decide +kernel
theorem dX7_copy_177 : decode cX7_copy 177 = .ok (.iadd, 1) := by decide +kernel
theorem dX7_copy_178 : decode cX7_copy 178 = .ok (.aload_n 0, 1) := by decide +kernel
theorem dX7_copy_179 : decode cX7_copy 179 = .ok (.getfield 41, 3) := by decide +kernel
theorem dX7_copy_182 : decode cX7_copy 182 = .ok (.iload 6, 2) := by decide +kernel
theorem dX7_copy_184 : decode cX7_copy 184 = .ok (.laload, 1) := by decide +kernel
theorem dX7_copy_185 : decode cX7_copy 185 = .ok (.lastore, 1) := by decide +kernel
theorem dX7_copy_186 : decode cX7_copy 186 = .ok (.iinc 6 1, 3) := by decide +kernel
theorem dX7_copy_189 : decode cX7_copy 189 = .ok (.goto (-32), 3) := by decide +kernel
theorem dX7_copy_192 : decode cX7_copy 192 = .ok (.iload 5, 2) := by decide +kernel
theorem dX7_copy_194 : decode cX7_copy 194 = .ok (.ireturn, 1) := by decide +kernel
set_option maxRecDepth 20000 in
theorem ggX7_lays_X7_wrongSheet : GoodIn wsX7_lays wsX7_wrongSheet := goodIn_r _ [9, 10, 11, 12, 13, 14, 8, 15, 16, 17, 18, 19, 32, 33, 34, 35, 36, 37, 38, 39, 40, 41, 42, 43, 44, 45, 46, 47, 48, 49] rfl (by decide +kernel)
set_option maxRecDepth 20000 in
theorem gX7_lays_X7_wrongSheet : GoodIn wsX7_lays (wsV RX7 280 RX7 yX7_wrongSheet wsX7_wrongSheet) := goodIn_app (goodIn_of _ (by decide +kernel)) ggX7_lays_X7_wrongSheet
set_option maxRecDepth 20000 in
theorem ggX7_lays_X7_finds : GoodIn wsX7_lays wsX7_finds := goodIn_r _ [23, 24, 10, 32, 33, 34, 35, 36, 37, 38, 39, 40, 41, 42, 43, 44, 45, 46, 47, 48, 49] rfl (by decide +kernel)
set_option maxRecDepth 20000 in
theorem gX7_lays_X7_finds : GoodIn wsX7_lays (wsV RX7 78 RX7 yX7_finds wsX7_finds) := goodIn_app (goodIn_of _ (by decide +kernel)) ggX7_lays_X7_finds
set_option maxRecDepth 20000 in
theorem ggX7_lays_X7_in : GoodIn wsX7_lays wsX7_in := goodIn_r _ [19] rfl (by decide +kernel)
set_option maxRecDepth 20000 in
theorem gX7_lays_X7_in : GoodIn wsX7_lays (va_wsS RX7 51 yX7_in wsX7_in) := goodIn_app (goodIn_of _ (by decide +kernel)) ggX7_lays_X7_in
set_option maxRecDepth 20000 in
theorem ggX7_lays_X7_spot : GoodIn wsX7_lays wsX7_spot := goodIn_r _ [27] rfl (by decide +kernel)
set_option maxRecDepth 20000 in
theorem gX7_lays_X7_spot : GoodIn wsX7_lays (va_wsS RX7 57 yX7_spot wsX7_spot) := goodIn_app (goodIn_of _ (by decide +kernel)) ggX7_lays_X7_spot
set_option maxRecDepth 20000 in
theorem ggX7_lays_X7_its : GoodIn wsX7_lays wsX7_its := goodIn_r _ [31, 2, 25, 26, 8, 27, 32, 33, 34, 35, 36, 37, 38, 39, 40, 41, 42, 43, 44, 45, 46, 47, 48, 49] rfl (by decide +kernel)
set_option maxRecDepth 20000 in
theorem gX7_lays_X7_its : GoodIn wsX7_lays (wsV RX7 93 RX7 yX7_its wsX7_its) := goodIn_app (goodIn_of _ (by decide +kernel)) ggX7_lays_X7_its
theorem dX7_lays_0 : decode cX7_lays 0 = .ok (.aload_n 0, 1) := by decide +kernel
theorem dX7_lays_1 : decode cX7_lays 1 = .ok (.iload_n 1, 1) := by decide +kernel
theorem dX7_lays_2 : decode cX7_lays 2 = .ok (.invokevirtual 280, 3) := by decide +kernel
theorem dX7_lays_5 : decode cX7_lays 5 = .ok (.istore_n 2, 1) := by decide +kernel
theorem dX7_lays_6 : decode cX7_lays 6 = .ok (.iload_n 2, 1) := by decide +kernel
theorem dX7_lays_7 : decode cX7_lays 7 = .ok (.ifCond .eq 9, 3) := by decide +kernel
theorem dX7_lays_10 : decode cX7_lays 10 = .ok (.aload_n 0, 1) := by decide +kernel
theorem dX7_lays_11 : decode cX7_lays 11 = .ok (.iload_n 2, 1) := by decide +kernel
theorem dX7_lays_12 : decode cX7_lays 12 = .ok (.invokevirtual 78, 3) := by decide +kernel
theorem dX7_lays_15 : decode cX7_lays 15 = .ok (.ireturn, 1) := by decide +kernel
theorem dX7_lays_16 : decode cX7_lays 16 = .ok (.iconst 0, 1) := by decide +kernel
theorem dX7_lays_17 : decode cX7_lays 17 = .ok (.istore_n 3, 1) := by decide +kernel
theorem dX7_lays_18 : decode cX7_lays 18 = .ok (.iconst 0, 1) := by decide +kernel
theorem dX7_lays_19 : decode cX7_lays 19 = .ok (.istore 4, 2) := by decide +kernel
theorem dX7_lays_21 : decode cX7_lays 21 = .ok (.iload 4, 2) := by decide +kernel
theorem dX7_lays_23 : decode cX7_lays 23 = .ok (.aload_n 0, 1) := by decide +kernel
theorem dX7_lays_24 : decode cX7_lays 24 = .ok (.getfield 34, 3) := by decide +kernel
theorem dX7_lays_27 : decode cX7_lays 27 = .ok (.iload_n 1, 1) := by decide +kernel
theorem dX7_lays_28 : decode cX7_lays 28 = .ok (.iaload, 1) := by decide +kernel
theorem dX7_lays_29 : decode cX7_lays 29 = .ok (.if_icmp .ge 93, 3) := by decide +kernel
theorem dX7_lays_32 : decode cX7_lays 32 = .ok (.iload 4, 2) := by decide +kernel
theorem dX7_lays_34 : decode cX7_lays 34 = .ok (.aload_n 0, 1) := by decide +kernel
theorem dX7_lays_35 : decode cX7_lays 35 = .ok (.getfield 7, 3) := by decide +kernel
theorem dX7_lays_38 : decode cX7_lays 38 = .ok (.iconst 0, 1) := by decide +kernel
theorem dX7_lays_39 : decode cX7_lays 39 = .ok (.iaload, 1) := by decide +kernel
theorem dX7_lays_40 : decode cX7_lays 40 = .ok (.if_icmp .ge 82, 3) := by decide +kernel
theorem dX7_lays_43 : decode cX7_lays 43 = .ok (.aload_n 0, 1) := by decide +kernel
theorem dX7_lays_44 : decode cX7_lays 44 = .ok (.getfield 37, 3) := by decide +kernel
theorem dX7_lays_47 : decode cX7_lays 47 = .ok (.bipush 40, 2) := by decide +kernel
theorem dX7_lays_49 : decode cX7_lays 49 = .ok (.iload_n 1, 1) := by decide +kernel
theorem dX7_lays_50 : decode cX7_lays 50 = .ok (.imul, 1) := by decide +kernel
theorem dX7_lays_51 : decode cX7_lays 51 = .ok (.iload 4, 2) := by decide +kernel
theorem dX7_lays_53 : decode cX7_lays 53 = .ok (.iadd, 1) := by decide +kernel
theorem dX7_lays_54 : decode cX7_lays 54 = .ok (.laload, 1) := by decide +kernel
theorem dX7_lays_55 : decode cX7_lays 55 = .ok (.lconst 0, 1) := by decide +kernel
theorem dX7_lays_56 : decode cX7_lays 56 = .ok (.ldc2_w 105, 3) := by decide +kernel
theorem dX7_lays_59 : decode cX7_lays 59 = .ok (.invokestatic 51, 3) := by decide +kernel
theorem dX7_lays_62 : decode cX7_lays 62 = .ok (.istore 5, 2) := by decide +kernel
theorem dX7_lays_64 : decode cX7_lays 64 = .ok (.aload_n 0, 1) := by decide +kernel
theorem dX7_lays_65 : decode cX7_lays 65 = .ok (.getfield 7, 3) := by decide +kernel
theorem dX7_lays_68 : decode cX7_lays 68 = .ok (.iload 4, 2) := by decide +kernel
theorem dX7_lays_70 : decode cX7_lays 70 = .ok (.iconst 1, 1) := by decide +kernel
theorem dX7_lays_71 : decode cX7_lays 71 = .ok (.invokestatic 57, 3) := by decide +kernel
theorem dX7_lays_74 : decode cX7_lays 74 = .ok (.iload 5, 2) := by decide +kernel
theorem dX7_lays_76 : decode cX7_lays 76 = .ok (.ifCond .eq 19, 3) := by decide +kernel
theorem dX7_lays_79 : decode cX7_lays 79 = .ok (.aload_n 0, 1) := by decide +kernel
theorem dX7_lays_80 : decode cX7_lays 80 = .ok (.getfield 37, 3) := by decide +kernel
theorem dX7_lays_83 : decode cX7_lays 83 = .ok (.bipush 40, 2) := by decide +kernel
theorem dX7_lays_85 : decode cX7_lays 85 = .ok (.iload_n 1, 1) := by decide +kernel
theorem dX7_lays_86 : decode cX7_lays 86 = .ok (.imul, 1) := by decide +kernel
theorem dX7_lays_87 : decode cX7_lays 87 = .ok (.iload 4, 2) := by decide +kernel
theorem dX7_lays_89 : decode cX7_lays 89 = .ok (.iadd, 1) := by decide +kernel
theorem dX7_lays_90 : decode cX7_lays 90 = .ok (.laload, 1) := by decide +kernel
theorem dX7_lays_91 : decode cX7_lays 91 = .ok (.l2i, 1) := by decide +kernel
theorem dX7_lays_92 : decode cX7_lays 92 = .ok (.goto 10, 3) := by decide +kernel
theorem dX7_lays_95 : decode cX7_lays 95 = .ok (.aload_n 0, 1) := by decide +kernel
theorem dX7_lays_96 : decode cX7_lays 96 = .ok (.iload 4, 2) := by decide +kernel
theorem dX7_lays_98 : decode cX7_lays 98 = .ok (.iconst 1, 1) := by decide +kernel
theorem dX7_lays_99 : decode cX7_lays 99 = .ok (.invokevirtual 93, 3) := by decide +kernel
theorem dX7_lays_102 : decode cX7_lays 102 = .ok (.iastore, 1) := by decide +kernel
theorem dX7_lays_103 : decode cX7_lays 103 = .ok (.iload_n 3, 1) := by decide +kernel
theorem dX7_lays_104 : decode cX7_lays 104 = .ok (.iload 5, 2) := by decide +kernel
theorem dX7_lays_106 : decode cX7_lays 106 = .ok (.ifCond .eq 7, 3) := by decide +kernel
theorem dX7_lays_109 : decode cX7_lays 109 = .ok (.iconst 1, 1) := by decide +kernel
theorem dX7_lays_110 : decode cX7_lays 110 = .ok (.goto 4, 3) := by decide +kernel
theorem dX7_lays_113 : decode cX7_lays 113 = .ok (.iconst 0, 1) := by decide +kernel
theorem dX7_lays_114 : decode cX7_lays 114 = .ok (.iadd, 1) := by decide +kernel
theorem dX7_lays_115 : decode cX7_lays 115 = .ok (.istore_n 3, 1) := by decide +kernel
theorem dX7_lays_116 : decode cX7_lays 116 = .ok (.iinc 4 1, 3) := by decide +kernel
theorem dX7_lays_119 : decode cX7_lays 119 = .ok (.goto (-98), 3) := by decide +kernel
theorem dX7_lays_122 : decode cX7_lays 122 = .ok (.iload_n 3, 1) := by decide +kernel
theorem dX7_lays_123 : decode cX7_lays 123 = .ok (.ireturn, 1) := by decide +kernel
set_option maxRecDepth 20000 in
theorem ggX7_wrongBook_X7_wrongSheet : GoodIn wsX7_wrongBook wsX7_wrongSheet := goodIn_r _ [6, 1, 7, 8, 9, 10, 5, 11, 12, 13, 14, 15, 19, 20, 21, 22, 23, 24, 25, 26, 27, 28, 29, 30, 31, 32, 33, 34, 35, 36] rfl (by decide +kernel)
set_option maxRecDepth 20000 in
theorem gX7_wrongBook_X7_wrongSheet : GoodIn wsX7_wrongBook (wsV RX7 280 RX7 yX7_wrongSheet wsX7_wrongSheet) := goodIn_app (goodIn_of _ (by decide +kernel)) ggX7_wrongBook_X7_wrongSheet
set_option maxRecDepth 20000 in
theorem ggX7_wrongBook_X7_isFarm : GoodIn wsX7_wrongBook wsX7_isFarm := goodIn_r _ [18, 12, 13, 14, 5, 15] rfl (by decide +kernel)
set_option maxRecDepth 20000 in
theorem gX7_wrongBook_X7_isFarm : GoodIn wsX7_wrongBook (va_wsS RX7 68 yX7_isFarm wsX7_isFarm) := goodIn_app (goodIn_of _ (by decide +kernel)) ggX7_wrongBook_X7_isFarm
theorem dX7_wrongBook_0 : decode cX7_wrongBook 0 = .ok (.aload_n 0, 1) := by decide +kernel
theorem dX7_wrongBook_1 : decode cX7_wrongBook 1 = .ok (.iload_n 1, 1) := by decide +kernel
theorem dX7_wrongBook_2 : decode cX7_wrongBook 2 = .ok (.invokevirtual 280, 3) := by decide +kernel
theorem dX7_wrongBook_5 : decode cX7_wrongBook 5 = .ok (.istore_n 3, 1) := by decide +kernel
theorem dX7_wrongBook_6 : decode cX7_wrongBook 6 = .ok (.iload_n 3, 1) := by decide +kernel
theorem dX7_wrongBook_7 : decode cX7_wrongBook 7 = .ok (.ifCond .eq 7, 3) := by decide +kernel
theorem dX7_wrongBook_10 : decode cX7_wrongBook 10 = .ok (.iload_n 3, 1) := by decide +kernel
theorem dX7_wrongBook_11 : decode cX7_wrongBook 11 = .ok (.goto 16, 3) := by decide +kernel
theorem dX7_wrongBook_14 : decode cX7_wrongBook 14 = .ok (.iload_n 2, 1) := by decide +kernel
theorem dX7_wrongBook_15 : decode cX7_wrongBook 15 = .ok (.invokestatic 68, 3) := by decide +kernel
theorem dX7_wrongBook_18 : decode cX7_wrongBook 18 = .ok (.ifCond .eq 7, 3) := by decide +kernel
theorem dX7_wrongBook_21 : decode cX7_wrongBook 21 = .ok (.iconst 0, 1) := by decide +kernel
theorem dX7_wrongBook_22 : decode cX7_wrongBook 22 = .ok (.goto 5, 3) := by decide +kernel
theorem dX7_wrongBook_25 : decode cX7_wrongBook 25 = .ok (.ldc 48, 2) := by decide +kernel
theorem dX7_wrongBook_27 : decode cX7_wrongBook 27 = .ok (.ireturn, 1) := by decide +kernel
set_option maxRecDepth 20000 in
theorem ggX7_book_X7_wrongBook : GoodIn wsX7_book wsX7_wrongBook := goodIn_r _ [9, 10, 11, 12, 13, 8, 14, 3, 15, 16, 17, 18, 19, 20, 21, 22, 23, 24, 25, 77, 78, 79, 80, 81, 82, 83, 84, 85, 86, 87, 88, 89, 90, 91, 92, 93, 94] rfl (by decide +kernel)
set_option maxRecDepth 20000 in
theorem gX7_book_X7_wrongBook : GoodIn wsX7_book (wsV RX7 287 RX7 yX7_wrongBook wsX7_wrongBook) := goodIn_app (goodIn_of _ (by decide +kernel)) ggX7_book_X7_wrongBook
set_option maxRecDepth 20000 in
theorem ggX7_book_X7_finds : GoodIn wsX7_book wsX7_finds := goodIn_r _ [29, 30, 10, 77, 78, 79, 80, 81, 82, 83, 84, 85, 86, 87, 88, 89, 90, 91, 92, 93, 94] rfl (by decide +kernel)
set_option maxRecDepth 20000 in
theorem gX7_book_X7_finds : GoodIn wsX7_book (wsV RX7 78 RX7 yX7_finds wsX7_finds) := goodIn_app (goodIn_of _ (by decide +kernel)) ggX7_book_X7_finds
set_option maxRecDepth 20000 in
theorem ggX7_book_X7_laysAside : GoodIn wsX7_book wsX7_laysAside := goodIn_r _ [34, 35, 4, 77, 78, 79, 80, 81, 82, 83, 84, 85, 86, 87, 88, 89, 90, 91, 92, 93, 94] rfl (by decide +kernel)
set_option maxRecDepth 20000 in
theorem gX7_book_X7_laysAside : GoodIn wsX7_book (wsV RX7 138 RX7 yX7_laysAside wsX7_laysAside) := goodIn_app (goodIn_of _ (by decide +kernel)) ggX7_book_X7_laysAside
set_option maxRecDepth 20000 in
theorem ggX7_book_X7_field : GoodIn wsX7_book wsX7_field := goodIn_r _ [38] rfl (by decide +kernel)
set_option maxRecDepth 20000 in
theorem gX7_book_X7_field : GoodIn wsX7_book (va_wsS RX7 44 yX7_field wsX7_field) := goodIn_app (goodIn_of _ (by decide +kernel)) ggX7_book_X7_field
set_option maxRecDepth 20000 in
theorem ggX7_book_X7_narrowed : GoodIn wsX7_book wsX7_narrowed := goodIn_r _ [41] rfl (by decide +kernel)
set_option maxRecDepth 20000 in
theorem gX7_book_X7_narrowed : GoodIn wsX7_book (va_wsS RX7 283 yX7_narrowed wsX7_narrowed) := goodIn_app (goodIn_of _ (by decide +kernel)) ggX7_book_X7_narrowed
set_option maxRecDepth 20000 in
theorem ggX7_book_X7_day : GoodIn wsX7_book wsX7_day := goodIn_r _ [45, 46, 4, 36, 37, 8, 38, 47, 48, 49, 50, 51, 52, 53, 54, 55, 56, 57, 58, 59, 60, 61, 62, 63, 64, 65, 66, 67, 68, 69, 70, 71, 72, 77, 78, 79, 80, 81, 82, 83, 84, 85, 86, 87, 88, 89, 90, 91, 92, 93, 94] rfl (by decide +kernel)
set_option maxRecDepth 20000 in
theorem gX7_book_X7_day : GoodIn wsX7_book (wsV RX7 126 RX7 yX7_day wsX7_day) := goodIn_app (goodIn_of _ (by decide +kernel)) ggX7_book_X7_day
set_option maxRecDepth 20000 in
theorem ggX7_book_X7_takesBack : GoodIn wsX7_book wsX7_takesBack := goodIn_r _ [76, 4, 35, 77, 78, 79, 80, 81, 82, 83, 84, 85, 86, 87, 88, 89, 90, 91, 92, 93, 94] rfl (by decide +kernel)
set_option maxRecDepth 20000 in
theorem gX7_book_X7_takesBack : GoodIn wsX7_book (wsV RX7 141 RX7 yX7_takesBack wsX7_takesBack) := goodIn_app (goodIn_of _ (by decide +kernel)) ggX7_book_X7_takesBack
theorem dX7_book_0 : decode cX7_book 0 = .ok (.aload_n 0, 1) := by decide +kernel
theorem dX7_book_1 : decode cX7_book 1 = .ok (.iload_n 1, 1) := by decide +kernel
theorem dX7_book_2 : decode cX7_book 2 = .ok (.iload_n 2, 1) := by decide +kernel
theorem dX7_book_3 : decode cX7_book 3 = .ok (.invokevirtual 287, 3) := by decide +kernel
theorem dX7_book_6 : decode cX7_book 6 = .ok (.istore_n 3, 1) := by decide +kernel
theorem dX7_book_7 : decode cX7_book 7 = .ok (.iload_n 3, 1) := by decide +kernel
theorem dX7_book_8 : decode cX7_book 8 = .ok (.ifCond .eq 9, 3) := by decide +kernel
theorem dX7_book_11 : decode cX7_book 11 = .ok (.aload_n 0, 1) := by decide +kernel
theorem dX7_book_12 : decode cX7_book 12 = .ok (.iload_n 3, 1) := by decide +kernel
theorem dX7_book_13 : decode cX7_book 13 = .ok (.invokevirtual 78, 3) := by decide +kernel
theorem dX7_book_16 : decode cX7_book 16 = .ok (.ireturn, 1) := by decide +kernel
theorem dX7_book_17 : decode cX7_book 17 = .ok (.aload_n 0, 1) := by decide +kernel
theorem dX7_book_18 : decode cX7_book 18 = .ok (.invokevirtual 138, 3) := by decide +kernel
theorem dX7_book_21 : decode cX7_book 21 = .ok (.iconst 0, 1) := by decide +kernel
theorem dX7_book_22 : decode cX7_book 22 = .ok (.istore 4, 2) := by decide +kernel
theorem dX7_book_24 : decode cX7_book 24 = .ok (.iload 4, 2) := by decide +kernel
theorem dX7_book_26 : decode cX7_book 26 = .ok (.aload_n 0, 1) := by decide +kernel
theorem dX7_book_27 : decode cX7_book 27 = .ok (.getfield 34, 3) := by decide +kernel
theorem dX7_book_30 : decode cX7_book 30 = .ok (.iload_n 1, 1) := by decide +kernel
theorem dX7_book_31 : decode cX7_book 31 = .ok (.iaload, 1) := by decide +kernel
theorem dX7_book_32 : decode cX7_book 32 = .ok (.if_icmp .ge 45, 3) := by decide +kernel
theorem dX7_book_35 : decode cX7_book 35 = .ok (.aload_n 0, 1) := by decide +kernel
theorem dX7_book_36 : decode cX7_book 36 = .ok (.getfield 37, 3) := by decide +kernel
theorem dX7_book_39 : decode cX7_book 39 = .ok (.bipush 40, 2) := by decide +kernel
theorem dX7_book_41 : decode cX7_book 41 = .ok (.iload_n 1, 1) := by decide +kernel
theorem dX7_book_42 : decode cX7_book 42 = .ok (.imul, 1) := by decide +kernel
theorem dX7_book_43 : decode cX7_book 43 = .ok (.iload 4, 2) := by decide +kernel
theorem dX7_book_45 : decode cX7_book 45 = .ok (.iadd, 1) := by decide +kernel
theorem dX7_book_46 : decode cX7_book 46 = .ok (.aload_n 0, 1) := by decide +kernel
theorem dX7_book_47 : decode cX7_book 47 = .ok (.getfield 31, 3) := by decide +kernel
theorem dX7_book_50 : decode cX7_book 50 = .ok (.iload_n 1, 1) := by decide +kernel
theorem dX7_book_51 : decode cX7_book 51 = .ok (.iaload, 1) := by decide +kernel
theorem dX7_book_52 : decode cX7_book 52 = .ok (.aload_n 0, 1) := by decide +kernel
theorem dX7_book_53 : decode cX7_book 53 = .ok (.getfield 7, 3) := by decide +kernel
theorem dX7_book_56 : decode cX7_book 56 = .ok (.iload_n 2, 1) := by decide +kernel
theorem dX7_book_57 : decode cX7_book 57 = .ok (.iconst 1, 1) := by decide +kernel
theorem dX7_book_58 : decode cX7_book 58 = .ok (.invokestatic 44, 3) := by decide +kernel
theorem dX7_book_61 : decode cX7_book 61 = .ok (.iaload, 1) := by decide +kernel
theorem dX7_book_62 : decode cX7_book 62 = .ok (.i2l, 1) := by decide +kernel
theorem dX7_book_63 : decode cX7_book 63 = .ok (.invokestatic 283, 3) := by decide +kernel
theorem dX7_book_66 : decode cX7_book 66 = .ok (.lastore, 1) := by decide +kernel
theorem dX7_book_67 : decode cX7_book 67 = .ok (.aload_n 0, 1) := by decide +kernel
theorem dX7_book_68 : decode cX7_book 68 = .ok (.invokevirtual 126, 3) := by decide +kernel
theorem dX7_book_71 : decode cX7_book 71 = .ok (.iinc 4 1, 3) := by decide +kernel
theorem dX7_book_74 : decode cX7_book 74 = .ok (.goto (-50), 3) := by decide +kernel
theorem dX7_book_77 : decode cX7_book 77 = .ok (.aload_n 0, 1) := by decide +kernel
theorem dX7_book_78 : decode cX7_book 78 = .ok (.aload_n 0, 1) := by decide +kernel
theorem dX7_book_79 : decode cX7_book 79 = .ok (.getfield 34, 3) := by decide +kernel
theorem dX7_book_82 : decode cX7_book 82 = .ok (.iload_n 1, 1) := by decide +kernel
theorem dX7_book_83 : decode cX7_book 83 = .ok (.iaload, 1) := by decide +kernel
theorem dX7_book_84 : decode cX7_book 84 = .ok (.invokevirtual 141, 3) := by decide +kernel
theorem dX7_book_87 : decode cX7_book 87 = .ok (.ireturn, 1) := by decide +kernel
set_option maxRecDepth 20000 in
theorem ggX7_isBook_X7_field : GoodIn wsX7_isBook wsX7_field := goodIn_r _ [7] rfl (by decide +kernel)
set_option maxRecDepth 20000 in
theorem gX7_isBook_X7_field : GoodIn wsX7_isBook (va_wsS RX7 44 yX7_field wsX7_field) := goodIn_app (goodIn_of _ (by decide +kernel)) ggX7_isBook_X7_field
set_option maxRecDepth 20000 in
theorem ggX7_isBook_X7_day : GoodIn wsX7_isBook wsX7_day := goodIn_r _ [11, 12, 3, 4, 5, 6, 7, 13, 14, 15, 16, 17, 18, 19, 20, 21, 22, 23, 24, 25, 26, 27, 28, 29, 30, 31, 32, 33, 34, 35, 36, 37, 38, 39, 40, 41, 42, 43, 44, 45, 46, 47, 48, 49, 50, 51, 52, 53, 54, 55, 56] rfl (by decide +kernel)
set_option maxRecDepth 20000 in
theorem gX7_isBook_X7_day : GoodIn wsX7_isBook (wsV RX7 126 RX7 yX7_day wsX7_day) := goodIn_app (goodIn_of _ (by decide +kernel)) ggX7_isBook_X7_day
theorem dX7_isBook_0 : decode cX7_isBook 0 = .ok (.iconst 0, 1) := by decide +kernel
theorem dX7_isBook_1 : decode cX7_isBook 1 = .ok (.istore_n 3, 1) := by decide +kernel
theorem dX7_isBook_2 : decode cX7_isBook 2 = .ok (.iload_n 3, 1) := by decide +kernel
theorem dX7_isBook_3 : decode cX7_isBook 3 = .ok (.aload_n 0, 1) := by decide +kernel
theorem dX7_isBook_4 : decode cX7_isBook 4 = .ok (.getfield 34, 3) := by decide +kernel
theorem dX7_isBook_7 : decode cX7_isBook 7 = .ok (.iload_n 1, 1) := by decide +kernel
theorem dX7_isBook_8 : decode cX7_isBook 8 = .ok (.iaload, 1) := by decide +kernel
theorem dX7_isBook_9 : decode cX7_isBook 9 = .ok (.if_icmp .ge 41, 3) := by decide +kernel
theorem dX7_isBook_12 : decode cX7_isBook 12 = .ok (.aload_n 0, 1) := by decide +kernel
theorem dX7_isBook_13 : decode cX7_isBook 13 = .ok (.getfield 37, 3) := by decide +kernel
theorem dX7_isBook_16 : decode cX7_isBook 16 = .ok (.bipush 40, 2) := by decide +kernel
theorem dX7_isBook_18 : decode cX7_isBook 18 = .ok (.iload_n 1, 1) := by decide +kernel
theorem dX7_isBook_19 : decode cX7_isBook 19 = .ok (.imul, 1) := by decide +kernel
theorem dX7_isBook_20 : decode cX7_isBook 20 = .ok (.iload_n 3, 1) := by decide +kernel
theorem dX7_isBook_21 : decode cX7_isBook 21 = .ok (.iadd, 1) := by decide +kernel
theorem dX7_isBook_22 : decode cX7_isBook 22 = .ok (.laload, 1) := by decide +kernel
theorem dX7_isBook_23 : decode cX7_isBook 23 = .ok (.aload_n 0, 1) := by decide +kernel
theorem dX7_isBook_24 : decode cX7_isBook 24 = .ok (.getfield 7, 3) := by decide +kernel
theorem dX7_isBook_27 : decode cX7_isBook 27 = .ok (.iload_n 2, 1) := by decide +kernel
theorem dX7_isBook_28 : decode cX7_isBook 28 = .ok (.iconst 1, 1) := by decide +kernel
theorem dX7_isBook_29 : decode cX7_isBook 29 = .ok (.invokestatic 44, 3) := by decide +kernel
theorem dX7_isBook_32 : decode cX7_isBook 32 = .ok (.iaload, 1) := by decide +kernel
theorem dX7_isBook_33 : decode cX7_isBook 33 = .ok (.i2l, 1) := by decide +kernel
theorem dX7_isBook_34 : decode cX7_isBook 34 = .ok (.lcmp, 1) := by decide +kernel
theorem dX7_isBook_35 : decode cX7_isBook 35 = .ok (.ifCond .eq 5, 3) := by decide +kernel
theorem dX7_isBook_38 : decode cX7_isBook 38 = .ok (.iconst 0, 1) := by decide +kernel
theorem dX7_isBook_39 : decode cX7_isBook 39 = .ok (.ireturn, 1) := by decide +kernel
theorem dX7_isBook_40 : decode cX7_isBook 40 = .ok (.aload_n 0, 1) := by decide +kernel
theorem dX7_isBook_41 : decode cX7_isBook 41 = .ok (.invokevirtual 126, 3) := by decide +kernel
theorem dX7_isBook_44 : decode cX7_isBook 44 = .ok (.iinc 3 1, 3) := by decide +kernel
theorem dX7_isBook_47 : decode cX7_isBook 47 = .ok (.goto (-45), 3) := by decide +kernel
theorem dX7_isBook_50 : decode cX7_isBook 50 = .ok (.iconst 1, 1) := by decide +kernel
theorem dX7_isBook_51 : decode cX7_isBook 51 = .ok (.ireturn, 1) := by decide +kernel
set_option maxRecDepth 20000 in
theorem ggX7_read_X7_wrongBook : GoodIn wsX7_read wsX7_wrongBook := goodIn_r _ [6, 7, 8, 9, 10, 5, 11, 12, 13, 14, 15, 16, 17, 18, 19, 20, 21, 22, 23, 78, 79, 80, 81, 82, 83, 84, 85, 86, 87, 88, 89, 90, 91, 92, 93, 94, 95] rfl (by decide +kernel)
set_option maxRecDepth 20000 in
theorem gX7_read_X7_wrongBook : GoodIn wsX7_read (wsV RX7 287 RX7 yX7_wrongBook wsX7_wrongBook) := goodIn_app (goodIn_of _ (by decide +kernel)) ggX7_read_X7_wrongBook
set_option maxRecDepth 20000 in
theorem ggX7_read_X7_finds : GoodIn wsX7_read wsX7_finds := goodIn_r _ [27, 28, 7, 78, 79, 80, 81, 82, 83, 84, 85, 86, 87, 88, 89, 90, 91, 92, 93, 94, 95] rfl (by decide +kernel)
set_option maxRecDepth 20000 in
theorem gX7_read_X7_finds : GoodIn wsX7_read (wsV RX7 78 RX7 yX7_finds wsX7_finds) := goodIn_app (goodIn_of _ (by decide +kernel)) ggX7_read_X7_finds
set_option maxRecDepth 20000 in
theorem ggX7_read_X7_laysAside : GoodIn wsX7_read wsX7_laysAside := goodIn_r _ [32, 33, 1, 78, 79, 80, 81, 82, 83, 84, 85, 86, 87, 88, 89, 90, 91, 92, 93, 94, 95] rfl (by decide +kernel)
set_option maxRecDepth 20000 in
theorem gX7_read_X7_laysAside : GoodIn wsX7_read (wsV RX7 138 RX7 yX7_laysAside wsX7_laysAside) := goodIn_app (goodIn_of _ (by decide +kernel)) ggX7_read_X7_laysAside
set_option maxRecDepth 20000 in
theorem ggX7_read_X7_field : GoodIn wsX7_read wsX7_field := goodIn_r _ [36] rfl (by decide +kernel)
set_option maxRecDepth 20000 in
theorem gX7_read_X7_field : GoodIn wsX7_read (va_wsS RX7 44 yX7_field wsX7_field) := goodIn_app (goodIn_of _ (by decide +kernel)) ggX7_read_X7_field
set_option maxRecDepth 20000 in
theorem ggX7_read_X7_isBook : GoodIn wsX7_read wsX7_isBook := goodIn_r _ [40, 41, 42, 1, 34, 35, 5, 36, 43, 44, 45, 46, 47, 48, 49, 50, 51, 52, 53, 54, 55, 56, 57, 58, 59, 60, 61, 62, 63, 64, 65, 66, 67, 68, 69, 70, 71, 72, 73, 78, 79, 80, 81, 82, 83, 84, 85, 86, 87, 88, 89, 90, 91, 92, 93, 94, 95] rfl (by decide +kernel)
set_option maxRecDepth 20000 in
theorem gX7_read_X7_isBook : GoodIn wsX7_read (wsV RX7 290 RX7 yX7_isBook wsX7_isBook) := goodIn_app (goodIn_of _ (by decide +kernel)) ggX7_read_X7_isBook
set_option maxRecDepth 20000 in
theorem ggX7_read_X7_takesBack : GoodIn wsX7_read wsX7_takesBack := goodIn_r _ [77, 1, 33, 78, 79, 80, 81, 82, 83, 84, 85, 86, 87, 88, 89, 90, 91, 92, 93, 94, 95] rfl (by decide +kernel)
set_option maxRecDepth 20000 in
theorem gX7_read_X7_takesBack : GoodIn wsX7_read (wsV RX7 141 RX7 yX7_takesBack wsX7_takesBack) := goodIn_app (goodIn_of _ (by decide +kernel)) ggX7_read_X7_takesBack
theorem dX7_read_0 : decode cX7_read 0 = .ok (.aload_n 0, 1) := by decide +kernel
theorem dX7_read_1 : decode cX7_read 1 = .ok (.iload_n 1, 1) := by decide +kernel
theorem dX7_read_2 : decode cX7_read 2 = .ok (.iload_n 2, 1) := by decide +kernel
theorem dX7_read_3 : decode cX7_read 3 = .ok (.invokevirtual 287, 3) := by decide +kernel
theorem dX7_read_6 : decode cX7_read 6 = .ok (.istore_n 3, 1) := by decide +kernel
theorem dX7_read_7 : decode cX7_read 7 = .ok (.iload_n 3, 1) := by decide +kernel
theorem dX7_read_8 : decode cX7_read 8 = .ok (.ifCond .eq 9, 3) := by decide +kernel
theorem dX7_read_11 : decode cX7_read 11 = .ok (.aload_n 0, 1) := by decide +kernel
theorem dX7_read_12 : decode cX7_read 12 = .ok (.iload_n 3, 1) := by decide +kernel
theorem dX7_read_13 : decode cX7_read 13 = .ok (.invokevirtual 78, 3) := by decide +kernel
theorem dX7_read_16 : decode cX7_read 16 = .ok (.ireturn, 1) := by decide +kernel
theorem dX7_read_17 : decode cX7_read 17 = .ok (.aload_n 0, 1) := by decide +kernel
theorem dX7_read_18 : decode cX7_read 18 = .ok (.invokevirtual 138, 3) := by decide +kernel
theorem dX7_read_21 : decode cX7_read 21 = .ok (.iconst 0, 1) := by decide +kernel
theorem dX7_read_22 : decode cX7_read 22 = .ok (.istore 4, 2) := by decide +kernel
theorem dX7_read_24 : decode cX7_read 24 = .ok (.iconst 0, 1) := by decide +kernel
theorem dX7_read_25 : decode cX7_read 25 = .ok (.istore 5, 2) := by decide +kernel
theorem dX7_read_27 : decode cX7_read 27 = .ok (.iload 5, 2) := by decide +kernel
theorem dX7_read_29 : decode cX7_read 29 = .ok (.aload_n 0, 1) := by decide +kernel
theorem dX7_read_30 : decode cX7_read 30 = .ok (.getfield 7, 3) := by decide +kernel
theorem dX7_read_33 : decode cX7_read 33 = .ok (.iconst 0, 1) := by decide +kernel
theorem dX7_read_34 : decode cX7_read 34 = .ok (.iaload, 1) := by decide +kernel
theorem dX7_read_35 : decode cX7_read 35 = .ok (.if_icmp .ge 44, 3) := by decide +kernel
theorem dX7_read_38 : decode cX7_read 38 = .ok (.aload_n 0, 1) := by decide +kernel
theorem dX7_read_39 : decode cX7_read 39 = .ok (.getfield 7, 3) := by decide +kernel
theorem dX7_read_42 : decode cX7_read 42 = .ok (.iload_n 2, 1) := by decide +kernel
theorem dX7_read_43 : decode cX7_read 43 = .ok (.iconst 3, 1) := by decide +kernel
theorem dX7_read_44 : decode cX7_read 44 = .ok (.invokestatic 44, 3) := by decide +kernel
theorem dX7_read_47 : decode cX7_read 47 = .ok (.iload 5, 2) := by decide +kernel
theorem dX7_read_49 : decode cX7_read 49 = .ok (.iastore, 1) := by decide +kernel
theorem dX7_read_50 : decode cX7_read 50 = .ok (.aload_n 0, 1) := by decide +kernel
theorem dX7_read_51 : decode cX7_read 51 = .ok (.iload 4, 2) := by decide +kernel
theorem dX7_read_53 : decode cX7_read 53 = .ok (.aload_n 0, 1) := by decide +kernel
theorem dX7_read_54 : decode cX7_read 54 = .ok (.iload_n 1, 1) := by decide +kernel
theorem dX7_read_55 : decode cX7_read 55 = .ok (.iload_n 2, 1) := by decide +kernel
theorem dX7_read_56 : decode cX7_read 56 = .ok (.invokevirtual 290, 3) := by decide +kernel
theorem dX7_read_59 : decode cX7_read 59 = .ok (.ifCond .eq 7, 3) := by decide +kernel
theorem dX7_read_62 : decode cX7_read 62 = .ok (.iconst 1, 1) := by decide +kernel
theorem dX7_read_63 : decode cX7_read 63 = .ok (.goto 4, 3) := by decide +kernel
theorem dX7_read_66 : decode cX7_read 66 = .ok (.iconst 0, 1) := by decide +kernel
theorem dX7_read_67 : decode cX7_read 67 = .ok (.iadd, 1) := by decide +kernel
theorem dX7_read_68 : decode cX7_read 68 = .ok (.invokevirtual 141, 3) := by decide +kernel
theorem dX7_read_71 : decode cX7_read 71 = .ok (.istore 4, 2) := by decide +kernel
theorem dX7_read_73 : decode cX7_read 73 = .ok (.iinc 5 1, 3) := by decide +kernel
theorem dX7_read_76 : decode cX7_read 76 = .ok (.goto (-49), 3) := by decide +kernel
theorem dX7_read_79 : decode cX7_read 79 = .ok (.iload 4, 2) := by decide +kernel
theorem dX7_read_81 : decode cX7_read 81 = .ok (.ireturn, 1) := by decide +kernel
theorem dX7_image_0 : decode cX7_image 0 = .ok (.iconst 0, 1) := by decide +kernel
theorem dX7_image_1 : decode cX7_image 1 = .ok (.istore_n 1, 1) := by decide +kernel
theorem dX7_image_2 : decode cX7_image 2 = .ok (.iload_n 1, 1) := by decide +kernel
theorem dX7_image_3 : decode cX7_image 3 = .ok (.bipush 53, 2) := by decide +kernel
theorem dX7_image_5 : decode cX7_image 5 = .ok (.if_icmp .ge 21, 3) := by decide +kernel
theorem dX7_image_8 : decode cX7_image 8 = .ok (.aload_n 0, 1) := by decide +kernel
theorem dX7_image_9 : decode cX7_image 9 = .ok (.getfield 13, 3) := by decide +kernel
theorem dX7_image_12 : decode cX7_image 12 = .ok (.iload_n 1, 1) := by decide +kernel
theorem dX7_image_13 : decode cX7_image 13 = .ok (.aload_n 0, 1) := by decide +kernel
theorem dX7_image_14 : decode cX7_image 14 = .ok (.getfield 7, 3) := by decide +kernel
theorem dX7_image_17 : decode cX7_image 17 = .ok (.iload_n 1, 1) := by decide +kernel
theorem dX7_image_18 : decode cX7_image 18 = .ok (.iaload, 1) := by decide +kernel
theorem dX7_image_19 : decode cX7_image 19 = .ok (.iastore, 1) := by decide +kernel
theorem dX7_image_20 : decode cX7_image 20 = .ok (.iinc 1 1, 3) := by decide +kernel
theorem dX7_image_23 : decode cX7_image 23 = .ok (.goto (-21), 3) := by decide +kernel
theorem dX7_image_26 : decode cX7_image 26 = .ok (.aload_n 0, 1) := by decide +kernel
theorem dX7_image_27 : decode cX7_image 27 = .ok (.iconst 1, 1) := by decide +kernel
theorem dX7_image_28 : decode cX7_image 28 = .ok (.putfield 293, 3) := by decide +kernel
theorem dX7_image_31 : decode cX7_image 31 = .ok (.iconst 1, 1) := by decide +kernel
theorem dX7_image_32 : decode cX7_image 32 = .ok (.ireturn, 1) := by decide +kernel
set_option maxRecDepth 20000 in
theorem ggX7_undo_X7_finds : GoodIn wsX7_undo wsX7_finds := goodIn_r _ [9, 10, 11, 12, 13, 14, 15, 16, 17, 18, 19, 20, 21, 22, 23, 24, 25, 26, 27, 28, 29] rfl (by decide +kernel)
set_option maxRecDepth 20000 in
theorem gX7_undo_X7_finds : GoodIn wsX7_undo (wsV RX7 78 RX7 yX7_finds wsX7_finds) := goodIn_app (goodIn_of _ (by decide +kernel)) ggX7_undo_X7_finds
theorem dX7_undo_0 : decode cX7_undo 0 = .ok (.aload_n 0, 1) := by decide +kernel
theorem dX7_undo_1 : decode cX7_undo 1 = .ok (.getfield 293, 3) := by decide +kernel
theorem dX7_undo_4 : decode cX7_undo 4 = .ok (.ifCond .ne 10, 3) := by decide +kernel
theorem dX7_undo_7 : decode cX7_undo 7 = .ok (.aload_n 0, 1) := by decide +kernel
theorem dX7_undo_8 : decode cX7_undo 8 = .ok (.ldc 147, 2) := by decide +kernel
theorem dX7_undo_10 : decode cX7_undo 10 = .ok (.invokevirtual 78, 3) := by decide +kernel
theorem dX7_undo_13 : decode cX7_undo 13 = .ok (.ireturn, 1) := by decide +kernel
theorem dX7_undo_14 : decode cX7_undo 14 = .ok (.iconst 0, 1) := by decide +kernel
theorem dX7_undo_15 : decode cX7_undo 15 = .ok (.istore_n 1, 1) := by decide +kernel
theorem dX7_undo_16 : decode cX7_undo 16 = .ok (.iload_n 1, 1) := by decide +kernel
theorem dX7_undo_17 : decode cX7_undo 17 = .ok (.bipush 53, 2) := by decide +kernel
theorem dX7_undo_19 : decode cX7_undo 19 = .ok (.if_icmp .ge 21, 3) := by decide +kernel
theorem dX7_undo_22 : decode cX7_undo 22 = .ok (.aload_n 0, 1) := by decide +kernel
theorem dX7_undo_23 : decode cX7_undo 23 = .ok (.getfield 7, 3) := by decide +kernel
theorem dX7_undo_26 : decode cX7_undo 26 = .ok (.iload_n 1, 1) := by decide +kernel
theorem dX7_undo_27 : decode cX7_undo 27 = .ok (.aload_n 0, 1) := by decide +kernel
theorem dX7_undo_28 : decode cX7_undo 28 = .ok (.getfield 13, 3) := by decide +kernel
theorem dX7_undo_31 : decode cX7_undo 31 = .ok (.iload_n 1, 1) := by decide +kernel
theorem dX7_undo_32 : decode cX7_undo 32 = .ok (.iaload, 1) := by decide +kernel
theorem dX7_undo_33 : decode cX7_undo 33 = .ok (.iastore, 1) := by decide +kernel
theorem dX7_undo_34 : decode cX7_undo 34 = .ok (.iinc 1 1, 3) := by decide +kernel
theorem dX7_undo_37 : decode cX7_undo 37 = .ok (.goto (-21), 3) := by decide +kernel
theorem dX7_undo_40 : decode cX7_undo 40 = .ok (.aload_n 0, 1) := by decide +kernel
theorem dX7_undo_41 : decode cX7_undo 41 = .ok (.getfield 7, 3) := by decide +kernel
theorem dX7_undo_44 : decode cX7_undo 44 = .ok (.iconst 0, 1) := by decide +kernel
theorem dX7_undo_45 : decode cX7_undo 45 = .ok (.iaload, 1) := by decide +kernel
theorem dX7_undo_46 : decode cX7_undo 46 = .ok (.ireturn, 1) := by decide +kernel
theorem dX7_tear_0 : decode cX7_tear 0 = .ok (.aload_n 0, 1) := by decide +kernel
theorem dX7_tear_1 : decode cX7_tear 1 = .ok (.getfield 293, 3) := by decide +kernel
theorem dX7_tear_4 : decode cX7_tear 4 = .ok (.ifCond .eq 7, 3) := by decide +kernel
theorem dX7_tear_7 : decode cX7_tear 7 = .ok (.iconst 1, 1) := by decide +kernel
theorem dX7_tear_8 : decode cX7_tear 8 = .ok (.goto 4, 3) := by decide +kernel
theorem dX7_tear_11 : decode cX7_tear 11 = .ok (.iconst 0, 1) := by decide +kernel
theorem dX7_tear_12 : decode cX7_tear 12 = .ok (.istore_n 1, 1) := by decide +kernel
theorem dX7_tear_13 : decode cX7_tear 13 = .ok (.aload_n 0, 1) := by decide +kernel
theorem dX7_tear_14 : decode cX7_tear 14 = .ok (.iconst 0, 1) := by decide +kernel
theorem dX7_tear_15 : decode cX7_tear 15 = .ok (.putfield 293, 3) := by decide +kernel
theorem dX7_tear_18 : decode cX7_tear 18 = .ok (.iload_n 1, 1) := by decide +kernel
theorem dX7_tear_19 : decode cX7_tear 19 = .ok (.ireturn, 1) := by decide +kernel
set_option maxRecDepth 20000 in
theorem ggX7_count_X7_in : GoodIn wsX7_count wsX7_in := goodIn_r _ [9] rfl (by decide +kernel)
set_option maxRecDepth 20000 in
theorem gX7_count_X7_in : GoodIn wsX7_count (va_wsS RX7 51 yX7_in wsX7_in) := goodIn_app (goodIn_of _ (by decide +kernel)) ggX7_count_X7_in
set_option maxRecDepth 20000 in
theorem ggX7_count_X7_finds : GoodIn wsX7_count wsX7_finds := goodIn_r _ [13, 14, 5, 25, 26, 27, 28, 29, 30, 31, 32, 33, 34, 35, 36, 37, 38, 39, 40, 41, 42] rfl (by decide +kernel)
set_option maxRecDepth 20000 in
theorem gX7_count_X7_finds : GoodIn wsX7_count (wsV RX7 78 RX7 yX7_finds wsX7_finds) := goodIn_app (goodIn_of _ (by decide +kernel)) ggX7_count_X7_finds
set_option maxRecDepth 20000 in
theorem ggX7_count_X7_its : GoodIn wsX7_count wsX7_its := goodIn_r _ [18, 1, 19, 20, 8, 21, 25, 26, 27, 28, 29, 30, 31, 32, 33, 34, 35, 36, 37, 38, 39, 40, 41, 42] rfl (by decide +kernel)
set_option maxRecDepth 20000 in
theorem gX7_count_X7_its : GoodIn wsX7_count (wsV RX7 93 RX7 yX7_its wsX7_its) := goodIn_app (goodIn_of _ (by decide +kernel)) ggX7_count_X7_its
set_option maxRecDepth 20000 in
theorem ggX7_count_X7_ones : GoodIn wsX7_count wsX7_ones := goodIn_r _ [24] rfl (by decide +kernel)
set_option maxRecDepth 20000 in
theorem gX7_count_X7_ones : GoodIn wsX7_count (va_wsS RX7 96 yX7_ones wsX7_ones) := goodIn_app (goodIn_of _ (by decide +kernel)) ggX7_count_X7_ones
theorem dX7_count_0 : decode cX7_count 0 = .ok (.iload_n 1, 1) := by decide +kernel
theorem dX7_count_1 : decode cX7_count 1 = .ok (.ifCond .eq 8, 3) := by decide +kernel
theorem dX7_count_4 : decode cX7_count 4 = .ok (.iload_n 1, 1) := by decide +kernel
theorem dX7_count_5 : decode cX7_count 5 = .ok (.iconst 1, 1) := by decide +kernel
theorem dX7_count_6 : decode cX7_count 6 = .ok (.if_icmp .ne 21, 3) := by decide +kernel
theorem dX7_count_9 : decode cX7_count 9 = .ok (.iload_n 1, 1) := by decide +kernel
theorem dX7_count_10 : decode cX7_count 10 = .ok (.ifCond .ne 12, 3) := by decide +kernel
theorem dX7_count_13 : decode cX7_count 13 = .ok (.aload_n 0, 1) := by decide +kernel
theorem dX7_count_14 : decode cX7_count 14 = .ok (.getfield 7, 3) := by decide +kernel
theorem dX7_count_17 : decode cX7_count 17 = .ok (.iconst 0, 1) := by decide +kernel
theorem dX7_count_18 : decode cX7_count 18 = .ok (.iaload, 1) := by decide +kernel
theorem dX7_count_19 : decode cX7_count 19 = .ok (.goto 7, 3) := by decide +kernel
theorem dX7_count_22 : decode cX7_count 22 = .ok (.aload_n 0, 1) := by decide +kernel
theorem dX7_count_23 : decode cX7_count 23 = .ok (.getfield 168, 3) := by decide +kernel
theorem dX7_count_26 : decode cX7_count 26 = .ok (.ireturn, 1) := by decide +kernel
theorem dX7_count_27 : decode cX7_count 27 = .ok (.iload_n 1, 1) := by decide +kernel
theorem dX7_count_28 : decode cX7_count 28 = .ok (.i2l, 1) := by decide +kernel
theorem dX7_count_29 : decode cX7_count 29 = .ok (.ldc2_w 82, 3) := by decide +kernel
theorem dX7_count_32 : decode cX7_count 32 = .ok (.ldc2_w 49, 3) := by decide +kernel
theorem dX7_count_35 : decode cX7_count 35 = .ok (.invokestatic 51, 3) := by decide +kernel
theorem dX7_count_38 : decode cX7_count 38 = .ok (.ifCond .ne 10, 3) := by decide +kernel
theorem dX7_count_41 : decode cX7_count 41 = .ok (.aload_n 0, 1) := by decide +kernel
theorem dX7_count_42 : decode cX7_count 42 = .ok (.ldc 48, 2) := by decide +kernel
theorem dX7_count_44 : decode cX7_count 44 = .ok (.invokevirtual 78, 3) := by decide +kernel
theorem dX7_count_47 : decode cX7_count 47 = .ok (.ireturn, 1) := by decide +kernel
theorem dX7_count_48 : decode cX7_count 48 = .ok (.iconst 0, 1) := by decide +kernel
theorem dX7_count_49 : decode cX7_count 49 = .ok (.istore_n 2, 1) := by decide +kernel
theorem dX7_count_50 : decode cX7_count 50 = .ok (.iconst 0, 1) := by decide +kernel
theorem dX7_count_51 : decode cX7_count 51 = .ok (.istore_n 3, 1) := by decide +kernel
theorem dX7_count_52 : decode cX7_count 52 = .ok (.iload_n 3, 1) := by decide +kernel
theorem dX7_count_53 : decode cX7_count 53 = .ok (.aload_n 0, 1) := by decide +kernel
theorem dX7_count_54 : decode cX7_count 54 = .ok (.getfield 7, 3) := by decide +kernel
theorem dX7_count_57 : decode cX7_count 57 = .ok (.iconst 0, 1) := by decide +kernel
theorem dX7_count_58 : decode cX7_count 58 = .ok (.iaload, 1) := by decide +kernel
theorem dX7_count_59 : decode cX7_count 59 = .ok (.if_icmp .ge 35, 3) := by decide +kernel
theorem dX7_count_62 : decode cX7_count 62 = .ok (.iload_n 2, 1) := by decide +kernel
theorem dX7_count_63 : decode cX7_count 63 = .ok (.iload_n 1, 1) := by decide +kernel
theorem dX7_count_64 : decode cX7_count 64 = .ok (.iconst 2, 1) := by decide +kernel
theorem dX7_count_65 : decode cX7_count 65 = .ok (.if_icmp .ne 15, 3) := by decide +kernel
theorem dX7_count_68 : decode cX7_count 68 = .ok (.aload_n 0, 1) := by decide +kernel
theorem dX7_count_69 : decode cX7_count 69 = .ok (.iload_n 3, 1) := by decide +kernel
theorem dX7_count_70 : decode cX7_count 70 = .ok (.iconst 1, 1) := by decide +kernel
theorem dX7_count_71 : decode cX7_count 71 = .ok (.invokevirtual 93, 3) := by decide +kernel
theorem dX7_count_74 : decode cX7_count 74 = .ok (.invokestatic 96, 3) := by decide +kernel
theorem dX7_count_77 : decode cX7_count 77 = .ok (.goto 9, 3) := by decide +kernel
theorem dX7_count_80 : decode cX7_count 80 = .ok (.aload_n 0, 1) := by decide +kernel
theorem dX7_count_81 : decode cX7_count 81 = .ok (.iload_n 3, 1) := by decide +kernel
theorem dX7_count_82 : decode cX7_count 82 = .ok (.iconst 3, 1) := by decide +kernel
theorem dX7_count_83 : decode cX7_count 83 = .ok (.invokevirtual 93, 3) := by decide +kernel
theorem dX7_count_86 : decode cX7_count 86 = .ok (.iadd, 1) := by decide +kernel
theorem dX7_count_87 : decode cX7_count 87 = .ok (.istore_n 2, 1) := by decide +kernel
theorem dX7_count_88 : decode cX7_count 88 = .ok (.iinc 3 1, 3) := by decide +kernel
theorem dX7_count_91 : decode cX7_count 91 = .ok (.goto (-39), 3) := by decide +kernel
theorem dX7_count_94 : decode cX7_count 94 = .ok (.iload_n 2, 1) := by decide +kernel
theorem dX7_count_95 : decode cX7_count 95 = .ok (.ireturn, 1) := by decide +kernel
set_option maxRecDepth 20000 in
theorem ggX7_status_X7_in : GoodIn wsX7_status wsX7_in := goodIn_r _ [8] rfl (by decide +kernel)
set_option maxRecDepth 20000 in
theorem gX7_status_X7_in : GoodIn wsX7_status (va_wsS RX7 51 yX7_in wsX7_in) := goodIn_app (goodIn_of _ (by decide +kernel)) ggX7_status_X7_in
set_option maxRecDepth 20000 in
theorem ggX7_status_X7_finds : GoodIn wsX7_status wsX7_finds := goodIn_r _ [12, 4, 3, 13, 14, 15, 16, 17, 18, 19, 20, 21, 22, 23, 24, 25, 26, 27, 28, 29, 30] rfl (by decide +kernel)
set_option maxRecDepth 20000 in
theorem gX7_status_X7_finds : GoodIn wsX7_status (wsV RX7 78 RX7 yX7_finds wsX7_finds) := goodIn_app (goodIn_of _ (by decide +kernel)) ggX7_status_X7_finds
theorem dX7_status_0 : decode cX7_status 0 = .ok (.iload_n 1, 1) := by decide +kernel
theorem dX7_status_1 : decode cX7_status 1 = .ok (.i2l, 1) := by decide +kernel
theorem dX7_status_2 : decode cX7_status 2 = .ok (.ldc2_w 296, 3) := by decide +kernel
theorem dX7_status_5 : decode cX7_status 5 = .ok (.ldc2_w 298, 3) := by decide +kernel
theorem dX7_status_8 : decode cX7_status 8 = .ok (.invokestatic 51, 3) := by decide +kernel
theorem dX7_status_11 : decode cX7_status 11 = .ok (.ifCond .ne 10, 3) := by decide +kernel
theorem dX7_status_14 : decode cX7_status 14 = .ok (.aload_n 0, 1) := by decide +kernel
theorem dX7_status_15 : decode cX7_status 15 = .ok (.ldc 48, 2) := by decide +kernel
theorem dX7_status_17 : decode cX7_status 17 = .ok (.invokevirtual 78, 3) := by decide +kernel
theorem dX7_status_20 : decode cX7_status 20 = .ok (.ireturn, 1) := by decide +kernel
theorem dX7_status_21 : decode cX7_status 21 = .ok (.iconst 0, 1) := by decide +kernel
theorem dX7_status_22 : decode cX7_status 22 = .ok (.istore_n 2, 1) := by decide +kernel
theorem dX7_status_23 : decode cX7_status 23 = .ok (.iconst 0, 1) := by decide +kernel
theorem dX7_status_24 : decode cX7_status 24 = .ok (.istore_n 3, 1) := by decide +kernel
theorem dX7_status_25 : decode cX7_status 25 = .ok (.iload_n 3, 1) := by decide +kernel
theorem dX7_status_26 : decode cX7_status 26 = .ok (.bipush 7, 2) := by decide +kernel
theorem dX7_status_28 : decode cX7_status 28 = .ok (.if_icmp .ge 31, 3) := by decide +kernel
theorem dX7_status_31 : decode cX7_status 31 = .ok (.iload_n 2, 1) := by decide +kernel
theorem dX7_status_32 : decode cX7_status 32 = .ok (.iload_n 1, 1) := by decide +kernel
theorem dX7_status_33 : decode cX7_status 33 = .ok (.ifCond .lt 8, 3) := by decide +kernel
theorem dX7_status_36 : decode cX7_status 36 = .ok (.iload_n 3, 1) := by decide +kernel
theorem dX7_status_37 : decode cX7_status 37 = .ok (.iload_n 1, 1) := by decide +kernel
theorem dX7_status_38 : decode cX7_status 38 = .ok (.if_icmp .ne 12, 3) := by decide +kernel
theorem dX7_status_41 : decode cX7_status 41 = .ok (.aload_n 0, 1) := by decide +kernel
theorem dX7_status_42 : decode cX7_status 42 = .ok (.getfield 22, 3) := by decide +kernel
theorem dX7_status_45 : decode cX7_status 45 = .ok (.iload_n 3, 1) := by decide +kernel
theorem dX7_status_46 : decode cX7_status 46 = .ok (.iaload, 1) := by decide +kernel
theorem dX7_status_47 : decode cX7_status 47 = .ok (.goto 4, 3) := by decide +kernel
theorem dX7_status_50 : decode cX7_status 50 = .ok (.iconst 0, 1) := by decide +kernel
theorem dX7_status_51 : decode cX7_status 51 = .ok (.iadd, 1) := by decide +kernel
theorem dX7_status_52 : decode cX7_status 52 = .ok (.istore_n 2, 1) := by decide +kernel
theorem dX7_status_53 : decode cX7_status 53 = .ok (.iinc 3 1, 3) := by decide +kernel
theorem dX7_status_56 : decode cX7_status 56 = .ok (.goto (-31), 3) := by decide +kernel
theorem dX7_status_59 : decode cX7_status 59 = .ok (.iload_n 2, 1) := by decide +kernel
theorem dX7_status_60 : decode cX7_status 60 = .ok (.ireturn, 1) := by decide +kernel
theorem dJ6_bitCount_0f7a4_0 : decode cJ6_bitCount_0f7a4 0 = .ok (.iload_n 0, 1) := by decide +kernel
theorem dJ6_bitCount_0f7a4_1 : decode cJ6_bitCount_0f7a4 1 = .ok (.iload_n 0, 1) := by decide +kernel
theorem dJ6_bitCount_0f7a4_2 : decode cJ6_bitCount_0f7a4 2 = .ok (.iconst 1, 1) := by decide +kernel
theorem dJ6_bitCount_0f7a4_3 : decode cJ6_bitCount_0f7a4 3 = .ok (.iushr, 1) := by decide +kernel
theorem dJ6_bitCount_0f7a4_4 : decode cJ6_bitCount_0f7a4 4 = .ok (.ldc_w 265, 3) := by decide +kernel
theorem dJ6_bitCount_0f7a4_7 : decode cJ6_bitCount_0f7a4 7 = .ok (.iand, 1) := by decide +kernel
theorem dJ6_bitCount_0f7a4_8 : decode cJ6_bitCount_0f7a4 8 = .ok (.isub, 1) := by decide +kernel
theorem dJ6_bitCount_0f7a4_9 : decode cJ6_bitCount_0f7a4 9 = .ok (.istore_n 0, 1) := by decide +kernel
theorem dJ6_bitCount_0f7a4_10 : decode cJ6_bitCount_0f7a4 10 = .ok (.iload_n 0, 1) := by decide +kernel
theorem dJ6_bitCount_0f7a4_11 : decode cJ6_bitCount_0f7a4 11 = .ok (.ldc_w 266, 3) := by decide +kernel
theorem dJ6_bitCount_0f7a4_14 : decode cJ6_bitCount_0f7a4 14 = .ok (.iand, 1) := by decide +kernel
theorem dJ6_bitCount_0f7a4_15 : decode cJ6_bitCount_0f7a4 15 = .ok (.iload_n 0, 1) := by decide +kernel
theorem dJ6_bitCount_0f7a4_16 : decode cJ6_bitCount_0f7a4 16 = .ok (.iconst 2, 1) := by decide +kernel
theorem dJ6_bitCount_0f7a4_17 : decode cJ6_bitCount_0f7a4 17 = .ok (.iushr, 1) := by decide +kernel
theorem dJ6_bitCount_0f7a4_18 : decode cJ6_bitCount_0f7a4 18 = .ok (.ldc_w 266, 3) := by decide +kernel
theorem dJ6_bitCount_0f7a4_21 : decode cJ6_bitCount_0f7a4 21 = .ok (.iand, 1) := by decide +kernel
theorem dJ6_bitCount_0f7a4_22 : decode cJ6_bitCount_0f7a4 22 = .ok (.iadd, 1) := by decide +kernel
theorem dJ6_bitCount_0f7a4_23 : decode cJ6_bitCount_0f7a4 23 = .ok (.istore_n 0, 1) := by decide +kernel
theorem dJ6_bitCount_0f7a4_24 : decode cJ6_bitCount_0f7a4 24 = .ok (.iload_n 0, 1) := by decide +kernel
theorem dJ6_bitCount_0f7a4_25 : decode cJ6_bitCount_0f7a4 25 = .ok (.iload_n 0, 1) := by decide +kernel
theorem dJ6_bitCount_0f7a4_26 : decode cJ6_bitCount_0f7a4 26 = .ok (.iconst 4, 1) := by decide +kernel
theorem dJ6_bitCount_0f7a4_27 : decode cJ6_bitCount_0f7a4 27 = .ok (.iushr, 1) := by decide +kernel
theorem dJ6_bitCount_0f7a4_28 : decode cJ6_bitCount_0f7a4 28 = .ok (.iadd, 1) := by decide +kernel
theorem dJ6_bitCount_0f7a4_29 : decode cJ6_bitCount_0f7a4 29 = .ok (.ldc_w 267, 3) := by decide +kernel
theorem dJ6_bitCount_0f7a4_32 : decode cJ6_bitCount_0f7a4 32 = .ok (.iand, 1) := by decide +kernel
theorem dJ6_bitCount_0f7a4_33 : decode cJ6_bitCount_0f7a4 33 = .ok (.istore_n 0, 1) := by decide +kernel
theorem dJ6_bitCount_0f7a4_34 : decode cJ6_bitCount_0f7a4 34 = .ok (.iload_n 0, 1) := by decide +kernel
theorem dJ6_bitCount_0f7a4_35 : decode cJ6_bitCount_0f7a4 35 = .ok (.iload_n 0, 1) := by decide +kernel
theorem dJ6_bitCount_0f7a4_36 : decode cJ6_bitCount_0f7a4 36 = .ok (.bipush 8, 2) := by decide +kernel
theorem dJ6_bitCount_0f7a4_38 : decode cJ6_bitCount_0f7a4 38 = .ok (.iushr, 1) := by decide +kernel
theorem dJ6_bitCount_0f7a4_39 : decode cJ6_bitCount_0f7a4 39 = .ok (.iadd, 1) := by decide +kernel
theorem dJ6_bitCount_0f7a4_40 : decode cJ6_bitCount_0f7a4 40 = .ok (.istore_n 0, 1) := by decide +kernel
theorem dJ6_bitCount_0f7a4_41 : decode cJ6_bitCount_0f7a4 41 = .ok (.iload_n 0, 1) := by decide +kernel
theorem dJ6_bitCount_0f7a4_42 : decode cJ6_bitCount_0f7a4 42 = .ok (.iload_n 0, 1) := by decide +kernel
theorem dJ6_bitCount_0f7a4_43 : decode cJ6_bitCount_0f7a4 43 = .ok (.bipush 16, 2) := by decide +kernel
theorem dJ6_bitCount_0f7a4_45 : decode cJ6_bitCount_0f7a4 45 = .ok (.iushr, 1) := by decide +kernel
theorem dJ6_bitCount_0f7a4_46 : decode cJ6_bitCount_0f7a4 46 = .ok (.iadd, 1) := by decide +kernel
theorem dJ6_bitCount_0f7a4_47 : decode cJ6_bitCount_0f7a4 47 = .ok (.istore_n 0, 1) := by decide +kernel
theorem dJ6_bitCount_0f7a4_48 : decode cJ6_bitCount_0f7a4 48 = .ok (.iload_n 0, 1) := by decide +kernel
theorem dJ6_bitCount_0f7a4_49 : decode cJ6_bitCount_0f7a4 49 = .ok (.bipush 63, 2) := by decide +kernel
theorem dJ6_bitCount_0f7a4_51 : decode cJ6_bitCount_0f7a4 51 = .ok (.iand, 1) := by decide +kernel
theorem dJ6_bitCount_0f7a4_52 : decode cJ6_bitCount_0f7a4 52 = .ok (.ireturn, 1) := by decide +kernel
theorem dJ9_max_7cf53_0 : decode cJ9_max_7cf53 0 = .ok (.iload_n 0, 1) := by decide +kernel
theorem dJ9_max_7cf53_1 : decode cJ9_max_7cf53 1 = .ok (.iload_n 1, 1) := by decide +kernel
theorem dJ9_max_7cf53_2 : decode cJ9_max_7cf53 2 = .ok (.if_icmp .lt 7, 3) := by decide +kernel
theorem dJ9_max_7cf53_5 : decode cJ9_max_7cf53 5 = .ok (.iload_n 0, 1) := by decide +kernel
theorem dJ9_max_7cf53_6 : decode cJ9_max_7cf53 6 = .ok (.goto 4, 3) := by decide +kernel
theorem dJ9_max_7cf53_9 : decode cJ9_max_7cf53 9 = .ok (.iload_n 1, 1) := by decide +kernel
theorem dJ9_max_7cf53_10 : decode cJ9_max_7cf53 10 = .ok (.ireturn, 1) := by decide +kernel
theorem dJ9_min_7cf53_0 : decode cJ9_min_7cf53 0 = .ok (.iload_n 0, 1) := by decide +kernel
theorem dJ9_min_7cf53_1 : decode cJ9_min_7cf53 1 = .ok (.iload_n 1, 1) := by decide +kernel
theorem dJ9_min_7cf53_2 : decode cJ9_min_7cf53 2 = .ok (.if_icmp .gt 7, 3) := by decide +kernel
theorem dJ9_min_7cf53_5 : decode cJ9_min_7cf53 5 = .ok (.iload_n 0, 1) := by decide +kernel
theorem dJ9_min_7cf53_6 : decode cJ9_min_7cf53 6 = .ok (.goto 4, 3) := by decide +kernel
theorem dJ9_min_7cf53_9 : decode cJ9_min_7cf53 9 = .ok (.iload_n 1, 1) := by decide +kernel
theorem dJ9_min_7cf53_10 : decode cJ9_min_7cf53 10 = .ok (.ireturn, 1) := by decide +kernel
set_option maxRecDepth 20000 in
theorem ggJ0_length_8abf5_J0_coder_7d493 : GoodIn wsJ0_length_8abf5 wsJ0_coder_7d493 := goodIn_r _ [6, 7, 8] rfl (by decide +kernel)
set_option maxRecDepth 20000 in
theorem gJ0_length_8abf5_J0_coder_7d493 : GoodIn wsJ0_length_8abf5 (wsV RJ0 335 RJ0 yJ0_coder_7d493 wsJ0_coder_7d493) := goodIn_app (goodIn_of _ (by decide +kernel)) ggJ0_length_8abf5_J0_coder_7d493
theorem dJ0_length_8abf5_0 : decode cJ0_length_8abf5 0 = .ok (.aload_n 0, 1) := by decide +kernel
theorem dJ0_length_8abf5_1 : decode cJ0_length_8abf5 1 = .ok (.getfield 9, 3) := by decide +kernel
theorem dJ0_length_8abf5_4 : decode cJ0_length_8abf5 4 = .ok (.arraylength, 1) := by decide +kernel
theorem dJ0_length_8abf5_5 : decode cJ0_length_8abf5 5 = .ok (.aload_n 0, 1) := by decide +kernel
theorem dJ0_length_8abf5_6 : decode cJ0_length_8abf5 6 = .ok (.invokevirtual 335, 3) := by decide +kernel
theorem dJ0_length_8abf5_9 : decode cJ0_length_8abf5 9 = .ok (.ishr, 1) := by decide +kernel
theorem dJ0_length_8abf5_10 : decode cJ0_length_8abf5 10 = .ok (.ireturn, 1) := by decide +kernel
set_option maxRecDepth 20000 in
theorem ggJ0_charAt_5068e_J0_isLatin1_aae02 : GoodIn wsJ0_charAt_5068e wsJ0_isLatin1_aae02 := goodIn_r _ [6, 7, 8] rfl (by decide +kernel)
set_option maxRecDepth 20000 in
theorem gJ0_charAt_5068e_J0_isLatin1_aae02 : GoodIn wsJ0_charAt_5068e (wsV RJ0 492 RJ0 yJ0_isLatin1_aae02 wsJ0_isLatin1_aae02) := goodIn_app (goodIn_of _ (by decide +kernel)) ggJ0_charAt_5068e_J0_isLatin1_aae02
set_option maxRecDepth 20000 in
theorem ggJ0_charAt_5068e_J1_charAt_3b067 : GoodIn wsJ0_charAt_5068e wsJ1_charAt_3b067 := goodIn_r _ [12, 13, 14, 5, 15, 16, 17, 18, 19, 20] rfl (by decide +kernel)
set_option maxRecDepth 20000 in
theorem gJ0_charAt_5068e_J1_charAt_3b067 : GoodIn wsJ0_charAt_5068e (va_wsS RJ0 495 yJ1_charAt_3b067 wsJ1_charAt_3b067) := goodIn_app (goodIn_of _ (by decide +kernel)) ggJ0_charAt_5068e_J1_charAt_3b067
set_option maxRecDepth 20000 in
theorem ggJ0_charAt_5068e_J2_charAt_3b067 : GoodIn wsJ0_charAt_5068e wsJ2_charAt_3b067 := goodIn_r _ [24, 25, 26, 23, 27, 28, 29, 30, 31, 14, 5, 15, 16, 17, 18, 19, 20, 32, 33, 34, 35, 36, 37] rfl (by decide +kernel)
set_option maxRecDepth 20000 in
theorem gJ0_charAt_5068e_J2_charAt_3b067 : GoodIn wsJ0_charAt_5068e (va_wsS RJ0 498 yJ2_charAt_3b067 wsJ2_charAt_3b067) := goodIn_app (goodIn_of _ (by decide +kernel)) ggJ0_charAt_5068e_J2_charAt_3b067
theorem dJ0_charAt_5068e_0 : decode cJ0_charAt_5068e 0 = .ok (.aload_n 0, 1) := by decide +kernel
theorem dJ0_charAt_5068e_1 : decode cJ0_charAt_5068e 1 = .ok (.invokevirtual 492, 3) := by decide +kernel
theorem dJ0_charAt_5068e_4 : decode cJ0_charAt_5068e 4 = .ok (.ifCond .eq 12, 3) := by decide +kernel
theorem dJ0_charAt_5068e_7 : decode cJ0_charAt_5068e 7 = .ok (.aload_n 0, 1) := by decide +kernel
theorem dJ0_charAt_5068e_8 : decode cJ0_charAt_5068e 8 = .ok (.getfield 9, 3) := by decide +kernel
theorem dJ0_charAt_5068e_11 : decode cJ0_charAt_5068e 11 = .ok (.iload_n 1, 1) := by decide +kernel
theorem dJ0_charAt_5068e_12 : decode cJ0_charAt_5068e 12 = .ok (.invokestatic 495, 3) := by decide +kernel
theorem dJ0_charAt_5068e_15 : decode cJ0_charAt_5068e 15 = .ok (.ireturn, 1) := by decide +kernel
theorem dJ0_charAt_5068e_16 : decode cJ0_charAt_5068e 16 = .ok (.aload_n 0, 1) := by decide +kernel
theorem dJ0_charAt_5068e_17 : decode cJ0_charAt_5068e 17 = .ok (.getfield 9, 3) := by decide +kernel
theorem dJ0_charAt_5068e_20 : decode cJ0_charAt_5068e 20 = .ok (.iload_n 1, 1) := by decide +kernel
theorem dJ0_charAt_5068e_21 : decode cJ0_charAt_5068e 21 = .ok (.invokestatic 498, 3) := by decide +kernel
theorem dJ0_charAt_5068e_24 : decode cJ0_charAt_5068e 24 = .ok (.ireturn, 1) := by decide +kernel
theorem dJ0_coder_7d493_0 : decode cJ0_coder_7d493 0 = .ok (.getstatic 38, 3) := by decide +kernel
theorem dJ0_coder_7d493_3 : decode cJ0_coder_7d493 3 = .ok (.ifCond .eq 10, 3) := by decide +kernel
theorem dJ0_coder_7d493_6 : decode cJ0_coder_7d493 6 = .ok (.aload_n 0, 1) := by decide +kernel
theorem dJ0_coder_7d493_7 : decode cJ0_coder_7d493 7 = .ok (.getfield 15, 3) := by decide +kernel
theorem dJ0_coder_7d493_10 : decode cJ0_coder_7d493 10 = .ok (.goto 4, 3) := by decide +kernel
theorem dJ0_coder_7d493_13 : decode cJ0_coder_7d493 13 = .ok (.iconst 1, 1) := by decide +kernel
theorem dJ0_coder_7d493_14 : decode cJ0_coder_7d493 14 = .ok (.ireturn, 1) := by decide +kernel
theorem dJ0_isLatin1_aae02_0 : decode cJ0_isLatin1_aae02 0 = .ok (.getstatic 38, 3) := by decide +kernel
theorem dJ0_isLatin1_aae02_3 : decode cJ0_isLatin1_aae02 3 = .ok (.ifCond .eq 14, 3) := by decide +kernel
theorem dJ0_isLatin1_aae02_6 : decode cJ0_isLatin1_aae02 6 = .ok (.aload_n 0, 1) := by decide +kernel
theorem dJ0_isLatin1_aae02_7 : decode cJ0_isLatin1_aae02 7 = .ok (.getfield 15, 3) := by decide +kernel
theorem dJ0_isLatin1_aae02_10 : decode cJ0_isLatin1_aae02 10 = .ok (.ifCond .ne 7, 3) := by decide +kernel
theorem dJ0_isLatin1_aae02_13 : decode cJ0_isLatin1_aae02 13 = .ok (.iconst 1, 1) := by decide +kernel
theorem dJ0_isLatin1_aae02_14 : decode cJ0_isLatin1_aae02 14 = .ok (.goto 4, 3) := by decide +kernel
theorem dJ0_isLatin1_aae02_17 : decode cJ0_isLatin1_aae02 17 = .ok (.iconst 0, 1) := by decide +kernel
theorem dJ0_isLatin1_aae02_18 : decode cJ0_isLatin1_aae02 18 = .ok (.ireturn, 1) := by decide +kernel
set_option maxRecDepth 20000 in
theorem ggJ0_checkIndex_df160_J3_checkIndex_8e157 : GoodIn wsJ0_checkIndex_df160 wsJ3_checkIndex_8e157 := goodIn_r _ [5] rfl (by decide +kernel)
set_option maxRecDepth 20000 in
theorem gJ0_checkIndex_df160_J3_checkIndex_8e157 : GoodIn wsJ0_checkIndex_df160 (va_wsS RJ0 1059 yJ3_checkIndex_8e157 wsJ3_checkIndex_8e157) := goodIn_app (goodIn_of _ (by decide +kernel)) ggJ0_checkIndex_df160_J3_checkIndex_8e157
theorem dJ0_checkIndex_df160_0 : decode cJ0_checkIndex_df160 0 = .ok (.iload_n 0, 1) := by decide +kernel
theorem dJ0_checkIndex_df160_1 : decode cJ0_checkIndex_df160 1 = .ok (.iload_n 1, 1) := by decide +kernel
theorem dJ0_checkIndex_df160_2 : decode cJ0_checkIndex_df160 2 = .ok (.getstatic 1053, 3) := by decide +kernel
theorem dJ0_checkIndex_df160_5 : decode cJ0_checkIndex_df160 5 = .ok (.invokestatic 1059, 3) := by decide +kernel
theorem dJ0_checkIndex_df160_8 : decode cJ0_checkIndex_df160 8 = .ok (.pop, 1) := by decide +kernel
theorem dJ0_checkIndex_df160_9 : decode cJ0_checkIndex_df160 9 = .ok (.return_, 1) := by decide +kernel
set_option maxRecDepth 20000 in
theorem ggJ1_charAt_3b067_J0_checkIndex_df160 : GoodIn wsJ1_charAt_3b067 wsJ0_checkIndex_df160 := goodIn_r _ [4, 5, 6, 7, 8, 9] rfl (by decide +kernel)
set_option maxRecDepth 20000 in
theorem gJ1_charAt_3b067_J0_checkIndex_df160 : GoodIn wsJ1_charAt_3b067 (va_wsS RJ1 9 yJ0_checkIndex_df160 wsJ0_checkIndex_df160) := goodIn_app (goodIn_of _ (by decide +kernel)) ggJ1_charAt_3b067_J0_checkIndex_df160
theorem dJ1_charAt_3b067_0 : decode cJ1_charAt_3b067 0 = .ok (.iload_n 1, 1) := by decide +kernel
theorem dJ1_charAt_3b067_1 : decode cJ1_charAt_3b067 1 = .ok (.aload_n 0, 1) := by decide +kernel
theorem dJ1_charAt_3b067_2 : decode cJ1_charAt_3b067 2 = .ok (.arraylength, 1) := by decide +kernel
theorem dJ1_charAt_3b067_3 : decode cJ1_charAt_3b067 3 = .ok (.invokestatic 9, 3) := by decide +kernel
theorem dJ1_charAt_3b067_6 : decode cJ1_charAt_3b067 6 = .ok (.aload_n 0, 1) := by decide +kernel
theorem dJ1_charAt_3b067_7 : decode cJ1_charAt_3b067 7 = .ok (.iload_n 1, 1) := by decide +kernel
theorem dJ1_charAt_3b067_8 : decode cJ1_charAt_3b067 8 = .ok (.baload, 1) := by decide +kernel
theorem dJ1_charAt_3b067_9 : decode cJ1_charAt_3b067 9 = .ok (.sipush 255, 3) := by decide +kernel
theorem dJ1_charAt_3b067_12 : decode cJ1_charAt_3b067 12 = .ok (.iand, 1) := by decide +kernel
theorem dJ1_charAt_3b067_13 : decode cJ1_charAt_3b067 13 = .ok (.i2c, 1) := by decide +kernel
theorem dJ1_charAt_3b067_14 : decode cJ1_charAt_3b067 14 = .ok (.ireturn, 1) := by decide +kernel
set_option maxRecDepth 20000 in
theorem ggJ2_getChar_3b067_J2_length_9d52b : GoodIn wsJ2_getChar_3b067 wsJ2_length_9d52b := goodIn_r _ [7] rfl (by decide +kernel)
set_option maxRecDepth 20000 in
theorem gJ2_getChar_3b067_J2_length_9d52b : GoodIn wsJ2_getChar_3b067 (va_wsS RJ2 48 yJ2_length_9d52b wsJ2_length_9d52b) := goodIn_app (goodIn_of _ (by decide +kernel)) ggJ2_getChar_3b067_J2_length_9d52b
theorem dJ2_getChar_3b067_0 : decode cJ2_getChar_3b067 0 = .ok (.getstatic 44, 3) := by decide +kernel
theorem dJ2_getChar_3b067_3 : decode cJ2_getChar_3b067 3 = .ok (.ifCond .ne 25, 3) := by decide +kernel
theorem dJ2_getChar_3b067_6 : decode cJ2_getChar_3b067 6 = .ok (.iload_n 1, 1) := by decide +kernel
theorem dJ2_getChar_3b067_7 : decode cJ2_getChar_3b067 7 = .ok (.ifCond .lt 11, 3) := by decide +kernel
theorem dJ2_getChar_3b067_10 : decode cJ2_getChar_3b067 10 = .ok (.iload_n 1, 1) := by decide +kernel
theorem dJ2_getChar_3b067_11 : decode cJ2_getChar_3b067 11 = .ok (.aload_n 0, 1) := by decide +kernel
theorem dJ2_getChar_3b067_12 : decode cJ2_getChar_3b067 12 = .ok (.invokestatic 48, 3) := by decide +kernel
theorem dJ2_getChar_3b067_15 : decode cJ2_getChar_3b067 15 = .ok (.if_icmp .lt 13, 3) := by decide +kernel
theorem dJ2_getChar_3b067_18 : decode cJ2_getChar_3b067 18 = .ok (.new 52, 3) := by decide +kernel
theorem dJ2_getChar_3b067_21 : decode cJ2_getChar_3b067 21 = .ok (.dup, 1) := by decide +kernel
theorem dJ2_getChar_3b067_22 : decode cJ2_getChar_3b067 22 = .ok (.ldc 54, 2) := by decide +kernel
theorem dJ2_getChar_3b067_24 : decode cJ2_getChar_3b067 24 = .ok (.invokespecial 56, 3) := by decide +kernel
theorem dJ2_getChar_3b067_27 : decode cJ2_getChar_3b067 27 = .ok (.athrow, 1) := by decide +kernel
theorem dJ2_getChar_3b067_28 : decode cJ2_getChar_3b067 28 = .ok (.iload_n 1, 1) := by decide +kernel
theorem dJ2_getChar_3b067_29 : decode cJ2_getChar_3b067 29 = .ok (.iconst 1, 1) := by decide +kernel
theorem dJ2_getChar_3b067_30 : decode cJ2_getChar_3b067 30 = .ok (.ishl, 1) := by decide +kernel
theorem dJ2_getChar_3b067_31 : decode cJ2_getChar_3b067 31 = .ok (.istore_n 1, 1) := by decide +kernel
theorem dJ2_getChar_3b067_32 : decode cJ2_getChar_3b067 32 = .ok (.aload_n 0, 1) := by decide +kernel
theorem dJ2_getChar_3b067_33 : decode cJ2_getChar_3b067 33 = .ok (.iload_n 1, 1) := by decide +kernel
theorem dJ2_getChar_3b067_34 : decode cJ2_getChar_3b067 34 = .ok (.iinc 1 1, 3) := by decide +kernel
theorem dJ2_getChar_3b067_37 : decode cJ2_getChar_3b067 37 = .ok (.baload, 1) := by decide +kernel
theorem dJ2_getChar_3b067_38 : decode cJ2_getChar_3b067 38 = .ok (.sipush 255, 3) := by decide +kernel
theorem dJ2_getChar_3b067_41 : decode cJ2_getChar_3b067 41 = .ok (.iand, 1) := by decide +kernel
theorem dJ2_getChar_3b067_42 : decode cJ2_getChar_3b067 42 = .ok (.getstatic 59, 3) := by decide +kernel
theorem dJ2_getChar_3b067_45 : decode cJ2_getChar_3b067 45 = .ok (.ishl, 1) := by decide +kernel
theorem dJ2_getChar_3b067_46 : decode cJ2_getChar_3b067 46 = .ok (.aload_n 0, 1) := by decide +kernel
theorem dJ2_getChar_3b067_47 : decode cJ2_getChar_3b067 47 = .ok (.iload_n 1, 1) := by decide +kernel
theorem dJ2_getChar_3b067_48 : decode cJ2_getChar_3b067 48 = .ok (.baload, 1) := by decide +kernel
theorem dJ2_getChar_3b067_49 : decode cJ2_getChar_3b067 49 = .ok (.sipush 255, 3) := by decide +kernel
theorem dJ2_getChar_3b067_52 : decode cJ2_getChar_3b067 52 = .ok (.iand, 1) := by decide +kernel
theorem dJ2_getChar_3b067_53 : decode cJ2_getChar_3b067 53 = .ok (.getstatic 63, 3) := by decide +kernel
theorem dJ2_getChar_3b067_56 : decode cJ2_getChar_3b067 56 = .ok (.ishl, 1) := by decide +kernel
theorem dJ2_getChar_3b067_57 : decode cJ2_getChar_3b067 57 = .ok (.ior, 1) := by decide +kernel
theorem dJ2_getChar_3b067_58 : decode cJ2_getChar_3b067 58 = .ok (.i2c, 1) := by decide +kernel
theorem dJ2_getChar_3b067_59 : decode cJ2_getChar_3b067 59 = .ok (.ireturn, 1) := by decide +kernel
theorem dJ2_length_9d52b_0 : decode cJ2_length_9d52b 0 = .ok (.aload_n 0, 1) := by decide +kernel
theorem dJ2_length_9d52b_1 : decode cJ2_length_9d52b 1 = .ok (.arraylength, 1) := by decide +kernel
theorem dJ2_length_9d52b_2 : decode cJ2_length_9d52b 2 = .ok (.iconst 1, 1) := by decide +kernel
theorem dJ2_length_9d52b_3 : decode cJ2_length_9d52b 3 = .ok (.ishr, 1) := by decide +kernel
theorem dJ2_length_9d52b_4 : decode cJ2_length_9d52b 4 = .ok (.ireturn, 1) := by decide +kernel
set_option maxRecDepth 20000 in
theorem ggJ2_charAt_3b067_J2_checkIndex_2214a : GoodIn wsJ2_charAt_3b067 wsJ2_checkIndex_2214a := goodIn_r _ [4, 5, 6, 3, 7, 8, 9, 10, 11, 12, 13, 14, 15, 16] rfl (by decide +kernel)
set_option maxRecDepth 20000 in
theorem gJ2_charAt_3b067_J2_checkIndex_2214a : GoodIn wsJ2_charAt_3b067 (va_wsS RJ2 67 yJ2_checkIndex_2214a wsJ2_checkIndex_2214a) := goodIn_app (goodIn_of _ (by decide +kernel)) ggJ2_charAt_3b067_J2_checkIndex_2214a
set_option maxRecDepth 20000 in
theorem ggJ2_charAt_3b067_J2_getChar_3b067 : GoodIn wsJ2_charAt_3b067 wsJ2_getChar_3b067 := goodIn_r _ [19, 20, 21, 22, 5, 6, 3, 7] rfl (by decide +kernel)
set_option maxRecDepth 20000 in
theorem gJ2_charAt_3b067_J2_getChar_3b067 : GoodIn wsJ2_charAt_3b067 (va_wsS RJ2 71 yJ2_getChar_3b067 wsJ2_getChar_3b067) := goodIn_app (goodIn_of _ (by decide +kernel)) ggJ2_charAt_3b067_J2_getChar_3b067
theorem dJ2_charAt_3b067_0 : decode cJ2_charAt_3b067 0 = .ok (.iload_n 1, 1) := by decide +kernel
theorem dJ2_charAt_3b067_1 : decode cJ2_charAt_3b067 1 = .ok (.aload_n 0, 1) := by decide +kernel
theorem dJ2_charAt_3b067_2 : decode cJ2_charAt_3b067 2 = .ok (.invokestatic 67, 3) := by decide +kernel
theorem dJ2_charAt_3b067_5 : decode cJ2_charAt_3b067 5 = .ok (.aload_n 0, 1) := by decide +kernel
theorem dJ2_charAt_3b067_6 : decode cJ2_charAt_3b067 6 = .ok (.iload_n 1, 1) := by decide +kernel
theorem dJ2_charAt_3b067_7 : decode cJ2_charAt_3b067 7 = .ok (.invokestatic 71, 3) := by decide +kernel
theorem dJ2_charAt_3b067_10 : decode cJ2_charAt_3b067 10 = .ok (.ireturn, 1) := by decide +kernel
set_option maxRecDepth 20000 in
theorem ggJ2_checkIndex_2214a_J2_length_9d52b : GoodIn wsJ2_checkIndex_2214a wsJ2_length_9d52b := goodIn_r _ [4] rfl (by decide +kernel)
set_option maxRecDepth 20000 in
theorem gJ2_checkIndex_2214a_J2_length_9d52b : GoodIn wsJ2_checkIndex_2214a (va_wsS RJ2 48 yJ2_length_9d52b wsJ2_length_9d52b) := goodIn_app (goodIn_of _ (by decide +kernel)) ggJ2_checkIndex_2214a_J2_length_9d52b
set_option maxRecDepth 20000 in
theorem ggJ2_checkIndex_2214a_J0_checkIndex_df160 : GoodIn wsJ2_checkIndex_2214a wsJ0_checkIndex_df160 := goodIn_r _ [8, 9, 10, 11, 12, 13] rfl (by decide +kernel)
set_option maxRecDepth 20000 in
theorem gJ2_checkIndex_2214a_J0_checkIndex_df160 : GoodIn wsJ2_checkIndex_2214a (va_wsS RJ2 414 yJ0_checkIndex_df160 wsJ0_checkIndex_df160) := goodIn_app (goodIn_of _ (by decide +kernel)) ggJ2_checkIndex_2214a_J0_checkIndex_df160
theorem dJ2_checkIndex_2214a_0 : decode cJ2_checkIndex_2214a 0 = .ok (.iload_n 0, 1) := by decide +kernel
theorem dJ2_checkIndex_2214a_1 : decode cJ2_checkIndex_2214a 1 = .ok (.aload_n 1, 1) := by decide +kernel
theorem dJ2_checkIndex_2214a_2 : decode cJ2_checkIndex_2214a 2 = .ok (.invokestatic 48, 3) := by decide +kernel
theorem dJ2_checkIndex_2214a_5 : decode cJ2_checkIndex_2214a 5 = .ok (.invokestatic 414, 3) := by decide +kernel
theorem dJ2_checkIndex_2214a_8 : decode cJ2_checkIndex_2214a 8 = .ok (.return_, 1) := by decide +kernel
theorem dJ7_fill_d0a16_0 : decode cJ7_fill_d0a16 0 = .ok (.iconst 0, 1) := by decide +kernel
theorem dJ7_fill_d0a16_1 : decode cJ7_fill_d0a16 1 = .ok (.istore_n 3, 1) := by decide +kernel
theorem dJ7_fill_d0a16_2 : decode cJ7_fill_d0a16 2 = .ok (.aload_n 0, 1) := by decide +kernel
theorem dJ7_fill_d0a16_3 : decode cJ7_fill_d0a16 3 = .ok (.arraylength, 1) := by decide +kernel
theorem dJ7_fill_d0a16_4 : decode cJ7_fill_d0a16 4 = .ok (.istore 4, 2) := by decide +kernel
theorem dJ7_fill_d0a16_6 : decode cJ7_fill_d0a16 6 = .ok (.iload_n 3, 1) := by decide +kernel
theorem dJ7_fill_d0a16_7 : decode cJ7_fill_d0a16 7 = .ok (.iload 4, 2) := by decide +kernel
theorem dJ7_fill_d0a16_9 : decode cJ7_fill_d0a16 9 = .ok (.if_icmp .ge 13, 3) := by decide +kernel
theorem dJ7_fill_d0a16_12 : decode cJ7_fill_d0a16 12 = .ok (.aload_n 0, 1) := by decide +kernel
theorem dJ7_fill_d0a16_13 : decode cJ7_fill_d0a16 13 = .ok (.iload_n 3, 1) := by decide +kernel
theorem dJ7_fill_d0a16_14 : decode cJ7_fill_d0a16 14 = .ok (.lload_n 1, 1) := by decide +kernel
theorem dJ7_fill_d0a16_15 : decode cJ7_fill_d0a16 15 = .ok (.lastore, 1) := by decide +kernel
theorem dJ7_fill_d0a16_16 : decode cJ7_fill_d0a16 16 = .ok (.iinc 3 1, 3) := by decide +kernel
theorem dJ7_fill_d0a16_19 : decode cJ7_fill_d0a16 19 = .ok (.goto (-13), 3) := by decide +kernel
theorem dJ7_fill_d0a16_22 : decode cJ7_fill_d0a16 22 = .ok (.return_, 1) := by decide +kernel
theorem dJ3_checkIndex_8e157_0 : decode cJ3_checkIndex_8e157 0 = .ok (.iload_n 0, 1) := by decide +kernel
theorem dJ3_checkIndex_8e157_1 : decode cJ3_checkIndex_8e157 1 = .ok (.ifCond .lt 8, 3) := by decide +kernel
theorem dJ3_checkIndex_8e157_4 : decode cJ3_checkIndex_8e157 4 = .ok (.iload_n 0, 1) := by decide +kernel
theorem dJ3_checkIndex_8e157_5 : decode cJ3_checkIndex_8e157 5 = .ok (.iload_n 1, 1) := by decide +kernel
theorem dJ3_checkIndex_8e157_6 : decode cJ3_checkIndex_8e157 6 = .ok (.if_icmp .lt 10, 3) := by decide +kernel
theorem dJ3_checkIndex_8e157_9 : decode cJ3_checkIndex_8e157 9 = .ok (.aload_n 2, 1) := by decide +kernel
theorem dJ3_checkIndex_8e157_10 : decode cJ3_checkIndex_8e157 10 = .ok (.iload_n 0, 1) := by decide +kernel
theorem dJ3_checkIndex_8e157_11 : decode cJ3_checkIndex_8e157 11 = .ok (.iload_n 1, 1) := by decide +kernel
theorem dJ3_checkIndex_8e157_12 : decode cJ3_checkIndex_8e157 12 = .ok (.invokestatic 95, 3) := by decide +kernel
theorem dJ3_checkIndex_8e157_15 : decode cJ3_checkIndex_8e157 15 = .ok (.athrow, 1) := by decide +kernel
theorem dJ3_checkIndex_8e157_16 : decode cJ3_checkIndex_8e157 16 = .ok (.iload_n 0, 1) := by decide +kernel
theorem dJ3_checkIndex_8e157_17 : decode cJ3_checkIndex_8e157 17 = .ok (.ireturn, 1) := by decide +kernel
