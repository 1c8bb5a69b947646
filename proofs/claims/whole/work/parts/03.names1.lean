theorem dX0_isKind_0 : decode cX0_isKind 0 = .ok (.iload_n 0, 1) := by decide +kernel
theorem dX0_isKind_1 : decode cX0_isKind 1 = .ok (.ifCond .lt 13, 3) := by decide +kernel
theorem dX0_isKind_4 : decode cX0_isKind 4 = .ok (.iload_n 0, 1) := by decide +kernel
theorem dX0_isKind_5 : decode cX0_isKind 5 = .ok (.bipush 6, 2) := by decide +kernel
theorem dX0_isKind_7 : decode cX0_isKind 7 = .ok (.if_icmp .ge 7, 3) := by decide +kernel
theorem dX0_isKind_10 : decode cX0_isKind 10 = .ok (.iconst 1, 1) := by decide +kernel
theorem dX0_isKind_11 : decode cX0_isKind 11 = .ok (.goto 4, 3) := by decide +kernel
theorem dX0_isKind_14 : decode cX0_isKind 14 = .ok (.iconst 0, 1) := by decide +kernel
theorem dX0_isKind_15 : decode cX0_isKind 15 = .ok (.ireturn, 1) := by decide +kernel
set_option maxRecDepth 20000 in
theorem ggX0_isUnder_X0_isKind : GoodIn wsX0_isUnder wsX0_isKind := goodIn_r _ [5] rfl (by decide +kernel)
set_option maxRecDepth 20000 in
theorem gX0_isUnder_X0_isKind : GoodIn wsX0_isUnder (va_wsS RX0 9 yX0_isKind wsX0_isKind) := goodIn_app (goodIn_of _ (by decide +kernel)) ggX0_isUnder_X0_isKind
theorem dX0_isUnder_0 : decode cX0_isUnder 0 = .ok (.iload_n 0, 1) := by decide +kernel
theorem dX0_isUnder_1 : decode cX0_isUnder 1 = .ok (.istore_n 2, 1) := by decide +kernel
theorem dX0_isUnder_2 : decode cX0_isUnder 2 = .ok (.iconst 0, 1) := by decide +kernel
theorem dX0_isUnder_3 : decode cX0_isUnder 3 = .ok (.istore_n 3, 1) := by decide +kernel
theorem dX0_isUnder_4 : decode cX0_isUnder 4 = .ok (.iload_n 3, 1) := by decide +kernel
theorem dX0_isUnder_5 : decode cX0_isUnder 5 = .ok (.bipush 6, 2) := by decide +kernel
theorem dX0_isUnder_7 : decode cX0_isUnder 7 = .ok (.if_icmp .ge 29, 3) := by decide +kernel
theorem dX0_isUnder_10 : decode cX0_isUnder 10 = .ok (.iload_n 2, 1) := by decide +kernel
theorem dX0_isUnder_11 : decode cX0_isUnder 11 = .ok (.invokestatic 9, 3) := by decide +kernel
theorem dX0_isUnder_14 : decode cX0_isUnder 14 = .ok (.ifCond .eq 22, 3) := by decide +kernel
theorem dX0_isUnder_17 : decode cX0_isUnder 17 = .ok (.iload_n 2, 1) := by decide +kernel
theorem dX0_isUnder_18 : decode cX0_isUnder 18 = .ok (.iload_n 1, 1) := by decide +kernel
theorem dX0_isUnder_19 : decode cX0_isUnder 19 = .ok (.if_icmp .ne 5, 3) := by decide +kernel
theorem dX0_isUnder_22 : decode cX0_isUnder 22 = .ok (.iconst 1, 1) := by decide +kernel
theorem dX0_isUnder_23 : decode cX0_isUnder 23 = .ok (.ireturn, 1) := by decide +kernel
theorem dX0_isUnder_24 : decode cX0_isUnder 24 = .ok (.getstatic 13, 3) := by decide +kernel
theorem dX0_isUnder_27 : decode cX0_isUnder 27 = .ok (.iload_n 2, 1) := by decide +kernel
theorem dX0_isUnder_28 : decode cX0_isUnder 28 = .ok (.iaload, 1) := by decide +kernel
theorem dX0_isUnder_29 : decode cX0_isUnder 29 = .ok (.istore_n 2, 1) := by decide +kernel
theorem dX0_isUnder_30 : decode cX0_isUnder 30 = .ok (.iinc 3 1, 3) := by decide +kernel
theorem dX0_isUnder_33 : decode cX0_isUnder 33 = .ok (.goto (-29), 3) := by decide +kernel
theorem dX0_isUnder_36 : decode cX0_isUnder 36 = .ok (.iconst 0, 1) := by decide +kernel
theorem dX0_isUnder_37 : decode cX0_isUnder 37 = .ok (.ireturn, 1) := by decide +kernel
set_option maxRecDepth 20000 in
theorem ggX0_deserved_J6_bitCount_0f7a4 : GoodIn wsX0_deserved wsJ6_bitCount_0f7a4 := goodIn_r _ [8, 9, 10, 11] rfl (by decide +kernel)
set_option maxRecDepth 20000 in
theorem gX0_deserved_J6_bitCount_0f7a4 : GoodIn wsX0_deserved (va_wsS RX0 17 yJ6_bitCount_0f7a4 wsJ6_bitCount_0f7a4) := goodIn_app (goodIn_of _ (by decide +kernel)) ggX0_deserved_J6_bitCount_0f7a4
theorem dX0_deserved_0 : decode cX0_deserved 0 = .ok (.iload_n 1, 1) := by decide +kernel
theorem dX0_deserved_1 : decode cX0_deserved 1 = .ok (.sipush 240, 3) := by decide +kernel
theorem dX0_deserved_4 : decode cX0_deserved 4 = .ok (.iand, 1) := by decide +kernel
theorem dX0_deserved_5 : decode cX0_deserved 5 = .ok (.invokestatic 17, 3) := by decide +kernel
theorem dX0_deserved_8 : decode cX0_deserved 8 = .ok (.istore_n 2, 1) := by decide +kernel
theorem dX0_deserved_9 : decode cX0_deserved 9 = .ok (.iconst 0, 1) := by decide +kernel
theorem dX0_deserved_10 : decode cX0_deserved 10 = .ok (.iconst 4, 1) := by decide +kernel
theorem dX0_deserved_11 : decode cX0_deserved 11 = .ok (.iconst 2, 1) := by decide +kernel
theorem dX0_deserved_12 : decode cX0_deserved 12 = .ok (.iload_n 1, 1) := by decide +kernel
theorem dX0_deserved_13 : decode cX0_deserved 13 = .ok (.bipush 15, 2) := by decide +kernel
theorem dX0_deserved_15 : decode cX0_deserved 15 = .ok (.iand, 1) := by decide +kernel
theorem dX0_deserved_16 : decode cX0_deserved 16 = .ok (.invokestatic 17, 3) := by decide +kernel
theorem dX0_deserved_19 : decode cX0_deserved 19 = .ok (.imul, 1) := by decide +kernel
theorem dX0_deserved_20 : decode cX0_deserved 20 = .ok (.iadd, 1) := by decide +kernel
theorem dX0_deserved_21 : decode cX0_deserved 21 = .ok (.iload_n 2, 1) := by decide +kernel
theorem dX0_deserved_22 : decode cX0_deserved 22 = .ok (.isub, 1) := by decide +kernel
theorem dX0_deserved_23 : decode cX0_deserved 23 = .ok (.invokestatic 23, 3) := by decide +kernel
theorem dX0_deserved_26 : decode cX0_deserved 26 = .ok (.istore_n 3, 1) := by decide +kernel
theorem dX0_deserved_27 : decode cX0_deserved 27 = .ok (.iload_n 0, 1) := by decide +kernel
theorem dX0_deserved_28 : decode cX0_deserved 28 = .ok (.tableswitch 79 1 5 #[36, 40, 44, 55, 65], 36) := by decide +kernel
theorem dX0_deserved_64 : decode cX0_deserved 64 = .ok (.iload_n 3, 1) := by decide +kernel
theorem dX0_deserved_65 : decode cX0_deserved 65 = .ok (.iconst 3, 1) := by decide +kernel
theorem dX0_deserved_66 : decode cX0_deserved 66 = .ok (.iadd, 1) := by decide +kernel
theorem dX0_deserved_67 : decode cX0_deserved 67 = .ok (.ireturn, 1) := by decide +kernel
theorem dX0_deserved_68 : decode cX0_deserved 68 = .ok (.iload_n 3, 1) := by decide +kernel
theorem dX0_deserved_69 : decode cX0_deserved 69 = .ok (.iconst 2, 1) := by decide +kernel
theorem dX0_deserved_70 : decode cX0_deserved 70 = .ok (.idiv, 1) := by decide +kernel
theorem dX0_deserved_71 : decode cX0_deserved 71 = .ok (.ireturn, 1) := by decide +kernel
theorem dX0_deserved_72 : decode cX0_deserved 72 = .ok (.iload_n 2, 1) := by decide +kernel
theorem dX0_deserved_73 : decode cX0_deserved 73 = .ok (.ifCond .ne 8, 3) := by decide +kernel
theorem dX0_deserved_76 : decode cX0_deserved 76 = .ok (.bipush 12, 2) := by decide +kernel
theorem dX0_deserved_78 : decode cX0_deserved 78 = .ok (.goto 4, 3) := by decide +kernel
theorem dX0_deserved_81 : decode cX0_deserved 81 = .ok (.iload_n 3, 1) := by decide +kernel
theorem dX0_deserved_82 : decode cX0_deserved 82 = .ok (.ireturn, 1) := by decide +kernel
theorem dX0_deserved_83 : decode cX0_deserved 83 = .ok (.iconst 0, 1) := by decide +kernel
theorem dX0_deserved_84 : decode cX0_deserved 84 = .ok (.iload_n 3, 1) := by decide +kernel
theorem dX0_deserved_85 : decode cX0_deserved 85 = .ok (.iconst 3, 1) := by decide +kernel
theorem dX0_deserved_86 : decode cX0_deserved 86 = .ok (.iadd, 1) := by decide +kernel
theorem dX0_deserved_87 : decode cX0_deserved 87 = .ok (.iconst 2, 1) := by decide +kernel
theorem dX0_deserved_88 : decode cX0_deserved 88 = .ok (.isub, 1) := by decide +kernel
theorem dX0_deserved_89 : decode cX0_deserved 89 = .ok (.invokestatic 23, 3) := by decide +kernel
theorem dX0_deserved_92 : decode cX0_deserved 92 = .ok (.ireturn, 1) := by decide +kernel
theorem dX0_deserved_93 : decode cX0_deserved 93 = .ok (.iload_n 1, 1) := by decide +kernel
theorem dX0_deserved_94 : decode cX0_deserved 94 = .ok (.iconst 1, 1) := by decide +kernel
theorem dX0_deserved_95 : decode cX0_deserved 95 = .ok (.iand, 1) := by decide +kernel
theorem dX0_deserved_96 : decode cX0_deserved 96 = .ok (.ifCond .eq 7, 3) := by decide +kernel
theorem dX0_deserved_99 : decode cX0_deserved 99 = .ok (.iconst 0, 1) := by decide +kernel
theorem dX0_deserved_100 : decode cX0_deserved 100 = .ok (.goto 6, 3) := by decide +kernel
theorem dX0_deserved_103 : decode cX0_deserved 103 = .ok (.iload_n 3, 1) := by decide +kernel
theorem dX0_deserved_104 : decode cX0_deserved 104 = .ok (.iconst 2, 1) := by decide +kernel
theorem dX0_deserved_105 : decode cX0_deserved 105 = .ok (.idiv, 1) := by decide +kernel
theorem dX0_deserved_106 : decode cX0_deserved 106 = .ok (.ireturn, 1) := by decide +kernel
theorem dX0_deserved_107 : decode cX0_deserved 107 = .ok (.iload_n 3, 1) := by decide +kernel
theorem dX0_deserved_108 : decode cX0_deserved 108 = .ok (.ireturn, 1) := by decide +kernel
theorem dX0_nameOf_0 : decode cX0_nameOf 0 = .ok (.iload_n 0, 1) := by decide +kernel
theorem dX0_nameOf_1 : decode cX0_nameOf 1 = .ok (.tableswitch 50 1 5 #[35, 38, 41, 44, 47], 35) := by decide +kernel
theorem dX0_nameOf_36 : decode cX0_nameOf 36 = .ok (.ldc 29, 2) := by decide +kernel
theorem dX0_nameOf_38 : decode cX0_nameOf 38 = .ok (.areturn, 1) := by decide +kernel
theorem dX0_nameOf_39 : decode cX0_nameOf 39 = .ok (.ldc 31, 2) := by decide +kernel
theorem dX0_nameOf_41 : decode cX0_nameOf 41 = .ok (.areturn, 1) := by decide +kernel
theorem dX0_nameOf_42 : decode cX0_nameOf 42 = .ok (.ldc 33, 2) := by decide +kernel
theorem dX0_nameOf_44 : decode cX0_nameOf 44 = .ok (.areturn, 1) := by decide +kernel
theorem dX0_nameOf_45 : decode cX0_nameOf 45 = .ok (.ldc 35, 2) := by decide +kernel
theorem dX0_nameOf_47 : decode cX0_nameOf 47 = .ok (.areturn, 1) := by decide +kernel
theorem dX0_nameOf_48 : decode cX0_nameOf 48 = .ok (.ldc 37, 2) := by decide +kernel
theorem dX0_nameOf_50 : decode cX0_nameOf 50 = .ok (.areturn, 1) := by decide +kernel
theorem dX0_nameOf_51 : decode cX0_nameOf 51 = .ok (.ldc 39, 2) := by decide +kernel
theorem dX0_nameOf_53 : decode cX0_nameOf 53 = .ok (.areturn, 1) := by decide +kernel
theorem dX1_init_0 : decode cX1_init 0 = .ok (.aload_n 0, 1) := by decide +kernel
theorem dX1_init_1 : decode cX1_init 1 = .ok (.invokespecial 1, 3) := by decide +kernel
theorem dX1_init_4 : decode cX1_init 4 = .ok (.aload_n 0, 1) := by decide +kernel
theorem dX1_init_5 : decode cX1_init 5 = .ok (.iconst 4, 1) := by decide +kernel
theorem dX1_init_6 : decode cX1_init 6 = .ok (.newarray .int, 2) := by decide +kernel
theorem dX1_init_8 : decode cX1_init 8 = .ok (.dup, 1) := by decide +kernel
theorem dX1_init_9 : decode cX1_init 9 = .ok (.iconst 0, 1) := by decide +kernel
theorem dX1_init_10 : decode cX1_init 10 = .ok (.iconst 3, 1) := by decide +kernel
theorem dX1_init_11 : decode cX1_init 11 = .ok (.iastore, 1) := by decide +kernel
theorem dX1_init_12 : decode cX1_init 12 = .ok (.dup, 1) := by decide +kernel
theorem dX1_init_13 : decode cX1_init 13 = .ok (.iconst 1, 1) := by decide +kernel
theorem dX1_init_14 : decode cX1_init 14 = .ok (.iconst 3, 1) := by decide +kernel
theorem dX1_init_15 : decode cX1_init 15 = .ok (.iastore, 1) := by decide +kernel
theorem dX1_init_16 : decode cX1_init 16 = .ok (.dup, 1) := by decide +kernel
theorem dX1_init_17 : decode cX1_init 17 = .ok (.iconst 2, 1) := by decide +kernel
theorem dX1_init_18 : decode cX1_init 18 = .ok (.iconst 3, 1) := by decide +kernel
theorem dX1_init_19 : decode cX1_init 19 = .ok (.iastore, 1) := by decide +kernel
theorem dX1_init_20 : decode cX1_init 20 = .ok (.dup, 1) := by decide +kernel
theorem dX1_init_21 : decode cX1_init 21 = .ok (.iconst 3, 1) := by decide +kernel
theorem dX1_init_22 : decode cX1_init 22 = .ok (.iconst 3, 1) := by decide +kernel
theorem dX1_init_23 : decode cX1_init 23 = .ok (.iastore, 1) := by decide +kernel
theorem dX1_init_24 : decode cX1_init 24 = .ok (.putfield 7, 3) := by decide +kernel
theorem dX1_init_27 : decode cX1_init 27 = .ok (.aload_n 0, 1) := by decide +kernel
theorem dX1_init_28 : decode cX1_init 28 = .ok (.iconst 4, 1) := by decide +kernel
theorem dX1_init_29 : decode cX1_init 29 = .ok (.newarray .int, 2) := by decide +kernel
theorem dX1_init_31 : decode cX1_init 31 = .ok (.dup, 1) := by decide +kernel
theorem dX1_init_32 : decode cX1_init 32 = .ok (.iconst 0, 1) := by decide +kernel
theorem dX1_init_33 : decode cX1_init 33 = .ok (.iconst 5, 1) := by decide +kernel
theorem dX1_init_34 : decode cX1_init 34 = .ok (.iastore, 1) := by decide +kernel
theorem dX1_init_35 : decode cX1_init 35 = .ok (.dup, 1) := by decide +kernel
theorem dX1_init_36 : decode cX1_init 36 = .ok (.iconst 1, 1) := by decide +kernel
theorem dX1_init_37 : decode cX1_init 37 = .ok (.iconst 5, 1) := by decide +kernel
theorem dX1_init_38 : decode cX1_init 38 = .ok (.iastore, 1) := by decide +kernel
theorem dX1_init_39 : decode cX1_init 39 = .ok (.dup, 1) := by decide +kernel
theorem dX1_init_40 : decode cX1_init 40 = .ok (.iconst 2, 1) := by decide +kernel
theorem dX1_init_41 : decode cX1_init 41 = .ok (.iconst 5, 1) := by decide +kernel
theorem dX1_init_42 : decode cX1_init 42 = .ok (.iastore, 1) := by decide +kernel
theorem dX1_init_43 : decode cX1_init 43 = .ok (.dup, 1) := by decide +kernel
theorem dX1_init_44 : decode cX1_init 44 = .ok (.iconst 3, 1) := by decide +kernel
theorem dX1_init_45 : decode cX1_init 45 = .ok (.iconst 5, 1) := by decide +kernel
theorem dX1_init_46 : decode cX1_init 46 = .ok (.iastore, 1) := by decide +kernel
theorem dX1_init_47 : decode cX1_init 47 = .ok (.putfield 13, 3) := by decide +kernel
theorem dX1_init_50 : decode cX1_init 50 = .ok (.aload_n 0, 1) := by decide +kernel
theorem dX1_init_51 : decode cX1_init 51 = .ok (.iconst 4, 1) := by decide +kernel
theorem dX1_init_52 : decode cX1_init 52 = .ok (.newarray .int, 2) := by decide +kernel
theorem dX1_init_54 : decode cX1_init 54 = .ok (.putfield 16, 3) := by decide +kernel
theorem dX1_init_57 : decode cX1_init 57 = .ok (.aload_n 0, 1) := by decide +kernel
theorem dX1_init_58 : decode cX1_init 58 = .ok (.iconst 4, 1) := by decide +kernel
theorem dX1_init_59 : decode cX1_init 59 = .ok (.newarray .int, 2) := by decide +kernel
theorem dX1_init_61 : decode cX1_init 61 = .ok (.dup, 1) := by decide +kernel
theorem dX1_init_62 : decode cX1_init 62 = .ok (.iconst 0, 1) := by decide +kernel
theorem dX1_init_63 : decode cX1_init 63 = .ok (.iconst (-1), 1) := by decide +kernel
theorem dX1_init_64 : decode cX1_init 64 = .ok (.iastore, 1) := by decide +kernel
theorem dX1_init_65 : decode cX1_init 65 = .ok (.dup, 1) := by decide +kernel
theorem dX1_init_66 : decode cX1_init 66 = .ok (.iconst 1, 1) := by decide +kernel
theorem dX1_init_67 : decode cX1_init 67 = .ok (.iconst (-1), 1) := by decide +kernel
theorem dX1_init_68 : decode cX1_init 68 = .ok (.iastore, 1) := by decide +kernel
theorem dX1_init_69 : decode cX1_init 69 = .ok (.dup, 1) := by decide +kernel
theorem dX1_init_70 : decode cX1_init 70 = .ok (.iconst 2, 1) := by decide +kernel
theorem dX1_init_71 : decode cX1_init 71 = .ok (.iconst (-1), 1) := by decide +kernel
theorem dX1_init_72 : decode cX1_init 72 = .ok (.iastore, 1) := by decide +kernel
theorem dX1_init_73 : decode cX1_init 73 = .ok (.dup, 1) := by decide +kernel
theorem dX1_init_74 : decode cX1_init 74 = .ok (.iconst 3, 1) := by decide +kernel
theorem dX1_init_75 : decode cX1_init 75 = .ok (.iconst (-1), 1) := by decide +kernel
theorem dX1_init_76 : decode cX1_init 76 = .ok (.iastore, 1) := by decide +kernel
theorem dX1_init_77 : decode cX1_init 77 = .ok (.putfield 19, 3) := by decide +kernel
theorem dX1_init_80 : decode cX1_init 80 = .ok (.aload_n 0, 1) := by decide +kernel
theorem dX1_init_81 : decode cX1_init 81 = .ok (.iconst 3, 1) := by decide +kernel
theorem dX1_init_82 : decode cX1_init 82 = .ok (.newarray .int, 2) := by decide +kernel
theorem dX1_init_84 : decode cX1_init 84 = .ok (.dup, 1) := by decide +kernel
theorem dX1_init_85 : decode cX1_init 85 = .ok (.iconst 0, 1) := by decide +kernel
theorem dX1_init_86 : decode cX1_init 86 = .ok (.bipush 100, 2) := by decide +kernel
theorem dX1_init_88 : decode cX1_init 88 = .ok (.iastore, 1) := by decide +kernel
theorem dX1_init_89 : decode cX1_init 89 = .ok (.dup, 1) := by decide +kernel
theorem dX1_init_90 : decode cX1_init 90 = .ok (.iconst 1, 1) := by decide +kernel
theorem dX1_init_91 : decode cX1_init 91 = .ok (.bipush 10, 2) := by decide +kernel
theorem dX1_init_93 : decode cX1_init 93 = .ok (.iastore, 1) := by decide +kernel
theorem dX1_init_94 : decode cX1_init 94 = .ok (.dup, 1) := by decide +kernel
theorem dX1_init_95 : decode cX1_init 95 = .ok (.iconst 2, 1) := by decide +kernel
theorem dX1_init_96 : decode cX1_init 96 = .ok (.iconst 0, 1) := by decide +kernel
theorem dX1_init_97 : decode cX1_init 97 = .ok (.iastore, 1) := by decide +kernel
theorem dX1_init_98 : decode cX1_init 98 = .ok (.putfield 22, 3) := by decide +kernel
theorem dX1_init_101 : decode cX1_init 101 = .ok (.aload_n 0, 1) := by decide +kernel
theorem dX1_init_102 : decode cX1_init 102 = .ok (.iconst 0, 1) := by decide +kernel
theorem dX1_init_103 : decode cX1_init 103 = .ok (.putfield 25, 3) := by decide +kernel
theorem dX1_init_106 : decode cX1_init 106 = .ok (.aload_n 0, 1) := by decide +kernel
theorem dX1_init_107 : decode cX1_init 107 = .ok (.iconst 0, 1) := by decide +kernel
theorem dX1_init_108 : decode cX1_init 108 = .ok (.putfield 29, 3) := by decide +kernel
theorem dX1_init_111 : decode cX1_init 111 = .ok (.aload_n 0, 1) := by decide +kernel
theorem dX1_init_112 : decode cX1_init 112 = .ok (.iconst 0, 1) := by decide +kernel
theorem dX1_init_113 : decode cX1_init 113 = .ok (.putfield 32, 3) := by decide +kernel
theorem dX1_init_116 : decode cX1_init 116 = .ok (.aload_n 0, 1) := by decide +kernel
theorem dX1_init_117 : decode cX1_init 117 = .ok (.bipush 8, 2) := by decide +kernel
theorem dX1_init_119 : decode cX1_init 119 = .ok (.newarray .int, 2) := by decide +kernel
theorem dX1_init_121 : decode cX1_init 121 = .ok (.putfield 35, 3) := by decide +kernel
theorem dX1_init_124 : decode cX1_init 124 = .ok (.aload_n 0, 1) := by decide +kernel
theorem dX1_init_125 : decode cX1_init 125 = .ok (.bipush 8, 2) := by decide +kernel
theorem dX1_init_127 : decode cX1_init 127 = .ok (.newarray .int, 2) := by decide +kernel
theorem dX1_init_129 : decode cX1_init 129 = .ok (.putfield 38, 3) := by decide +kernel
theorem dX1_init_132 : decode cX1_init 132 = .ok (.aload_n 0, 1) := by decide +kernel
theorem dX1_init_133 : decode cX1_init 133 = .ok (.bipush 8, 2) := by decide +kernel
theorem dX1_init_135 : decode cX1_init 135 = .ok (.newarray .int, 2) := by decide +kernel
theorem dX1_init_137 : decode cX1_init 137 = .ok (.putfield 41, 3) := by decide +kernel
theorem dX1_init_140 : decode cX1_init 140 = .ok (.aload_n 0, 1) := by decide +kernel
theorem dX1_init_141 : decode cX1_init 141 = .ok (.bipush 8, 2) := by decide +kernel
theorem dX1_init_143 : decode cX1_init 143 = .ok (.newarray .int, 2) := by decide +kernel
theorem dX1_init_145 : decode cX1_init 145 = .ok (.putfield 44, 3) := by decide +kernel
theorem dX1_init_148 : decode cX1_init 148 = .ok (.return_, 1) := by decide +kernel
theorem dX1_become_0 : decode cX1_become 0 = .ok (.aload_n 1, 1) := by decide +kernel
theorem dX1_become_1 : decode cX1_become 1 = .ok (.getfield 7, 3) := by decide +kernel
theorem dX1_become_4 : decode cX1_become 4 = .ok (.iconst 0, 1) := by decide +kernel
theorem dX1_become_5 : decode cX1_become 5 = .ok (.aload_n 0, 1) := by decide +kernel
theorem dX1_become_6 : decode cX1_become 6 = .ok (.getfield 7, 3) := by decide +kernel
theorem dX1_become_9 : decode cX1_become 9 = .ok (.iconst 0, 1) := by decide +kernel
theorem dX1_become_10 : decode cX1_become 10 = .ok (.iconst 4, 1) := by decide +kernel
theorem dX1_become_11 : decode cX1_become 11 = .ok (.invokestatic 47, 3) := by decide +kernel
theorem dX1_become_14 : decode cX1_become 14 = .ok (.aload_n 1, 1) := by decide +kernel
theorem dX1_become_15 : decode cX1_become 15 = .ok (.getfield 13, 3) := by decide +kernel
theorem dX1_become_18 : decode cX1_become 18 = .ok (.iconst 0, 1) := by decide +kernel
theorem dX1_become_19 : decode cX1_become 19 = .ok (.aload_n 0, 1) := by decide +kernel
theorem dX1_become_20 : decode cX1_become 20 = .ok (.getfield 13, 3) := by decide +kernel
theorem dX1_become_23 : decode cX1_become 23 = .ok (.iconst 0, 1) := by decide +kernel
theorem dX1_become_24 : decode cX1_become 24 = .ok (.iconst 4, 1) := by decide +kernel
theorem dX1_become_25 : decode cX1_become 25 = .ok (.invokestatic 47, 3) := by decide +kernel
theorem dX1_become_28 : decode cX1_become 28 = .ok (.aload_n 1, 1) := by decide +kernel
theorem dX1_become_29 : decode cX1_become 29 = .ok (.getfield 16, 3) := by decide +kernel
theorem dX1_become_32 : decode cX1_become 32 = .ok (.iconst 0, 1) := by decide +kernel
theorem dX1_become_33 : decode cX1_become 33 = .ok (.aload_n 0, 1) := by decide +kernel
theorem dX1_become_34 : decode cX1_become 34 = .ok (.getfield 16, 3) := by decide +kernel
theorem dX1_become_37 : decode cX1_become 37 = .ok (.iconst 0, 1) := by decide +kernel
theorem dX1_become_38 : decode cX1_become 38 = .ok (.iconst 4, 1) := by decide +kernel
theorem dX1_become_39 : decode cX1_become 39 = .ok (.invokestatic 47, 3) := by decide +kernel
theorem dX1_become_42 : decode cX1_become 42 = .ok (.aload_n 1, 1) := by decide +kernel
theorem dX1_become_43 : decode cX1_become 43 = .ok (.getfield 19, 3) := by decide +kernel
theorem dX1_become_46 : decode cX1_become 46 = .ok (.iconst 0, 1) := by decide +kernel
theorem dX1_become_47 : decode cX1_become 47 = .ok (.aload_n 0, 1) := by decide +kernel
theorem dX1_become_48 : decode cX1_become 48 = .ok (.getfield 19, 3) := by decide +kernel
theorem dX1_become_51 : decode cX1_become 51 = .ok (.iconst 0, 1) := by decide +kernel
theorem dX1_become_52 : decode cX1_become 52 = .ok (.iconst 4, 1) := by decide +kernel
theorem dX1_become_53 : decode cX1_become 53 = .ok (.invokestatic 47, 3) := by decide +kernel
theorem dX1_become_56 : decode cX1_become 56 = .ok (.aload_n 1, 1) := by decide +kernel
theorem dX1_become_57 : decode cX1_become 57 = .ok (.getfield 22, 3) := by decide +kernel
theorem dX1_become_60 : decode cX1_become 60 = .ok (.iconst 0, 1) := by decide +kernel
theorem dX1_become_61 : decode cX1_become 61 = .ok (.aload_n 0, 1) := by decide +kernel
theorem dX1_become_62 : decode cX1_become 62 = .ok (.getfield 22, 3) := by decide +kernel
theorem dX1_become_65 : decode cX1_become 65 = .ok (.iconst 0, 1) := by decide +kernel
theorem dX1_become_66 : decode cX1_become 66 = .ok (.aload_n 0, 1) := by decide +kernel
theorem dX1_become_67 : decode cX1_become 67 = .ok (.getfield 22, 3) := by decide +kernel
theorem dX1_become_70 : decode cX1_become 70 = .ok (.arraylength, 1) := by decide +kernel
theorem dX1_become_71 : decode cX1_become 71 = .ok (.invokestatic 47, 3) := by decide +kernel
theorem dX1_become_74 : decode cX1_become 74 = .ok (.aload_n 0, 1) := by decide +kernel
theorem dX1_become_75 : decode cX1_become 75 = .ok (.aload_n 1, 1) := by decide +kernel
theorem dX1_become_76 : decode cX1_become 76 = .ok (.getfield 25, 3) := by decide +kernel
theorem dX1_become_79 : decode cX1_become 79 = .ok (.putfield 25, 3) := by decide +kernel
theorem dX1_become_82 : decode cX1_become 82 = .ok (.aload_n 0, 1) := by decide +kernel
theorem dX1_become_83 : decode cX1_become 83 = .ok (.aload_n 1, 1) := by decide +kernel
theorem dX1_become_84 : decode cX1_become 84 = .ok (.getfield 29, 3) := by decide +kernel
theorem dX1_become_87 : decode cX1_become 87 = .ok (.putfield 29, 3) := by decide +kernel
theorem dX1_become_90 : decode cX1_become 90 = .ok (.aload_n 0, 1) := by decide +kernel
theorem dX1_become_91 : decode cX1_become 91 = .ok (.aload_n 1, 1) := by decide +kernel
theorem dX1_become_92 : decode cX1_become 92 = .ok (.getfield 32, 3) := by decide +kernel
theorem dX1_become_95 : decode cX1_become 95 = .ok (.putfield 32, 3) := by decide +kernel
theorem dX1_become_98 : decode cX1_become 98 = .ok (.aload_n 1, 1) := by decide +kernel
theorem dX1_become_99 : decode cX1_become 99 = .ok (.getfield 35, 3) := by decide +kernel
theorem dX1_become_102 : decode cX1_become 102 = .ok (.iconst 0, 1) := by decide +kernel
theorem dX1_become_103 : decode cX1_become 103 = .ok (.aload_n 0, 1) := by decide +kernel
theorem dX1_become_104 : decode cX1_become 104 = .ok (.getfield 35, 3) := by decide +kernel
theorem dX1_become_107 : decode cX1_become 107 = .ok (.iconst 0, 1) := by decide +kernel
theorem dX1_become_108 : decode cX1_become 108 = .ok (.bipush 8, 2) := by decide +kernel
theorem dX1_become_110 : decode cX1_become 110 = .ok (.invokestatic 47, 3) := by decide +kernel
theorem dX1_become_113 : decode cX1_become 113 = .ok (.aload_n 1, 1) := by decide +kernel
theorem dX1_become_114 : decode cX1_become 114 = .ok (.getfield 38, 3) := by decide +kernel
theorem dX1_become_117 : decode cX1_become 117 = .ok (.iconst 0, 1) := by decide +kernel
theorem dX1_become_118 : decode cX1_become 118 = .ok (.aload_n 0, 1) := by decide +kernel
theorem dX1_become_119 : decode cX1_become 119 = .ok (.getfield 38, 3) := by decide +kernel
theorem dX1_become_122 : decode cX1_become 122 = .ok (.iconst 0, 1) := by decide +kernel
theorem dX1_become_123 : decode cX1_become 123 = .ok (.bipush 8, 2) := by decide +kernel
theorem dX1_become_125 : decode cX1_become 125 = .ok (.invokestatic 47, 3) := by decide +kernel
theorem dX1_become_128 : decode cX1_become 128 = .ok (.aload_n 1, 1) := by decide +kernel
theorem dX1_become_129 : decode cX1_become 129 = .ok (.getfield 41, 3) := by decide +kernel
theorem dX1_become_132 : decode cX1_become 132 = .ok (.iconst 0, 1) := by decide +kernel
theorem dX1_become_133 : decode cX1_become 133 = .ok (.aload_n 0, 1) := by decide +kernel
theorem dX1_become_134 : decode cX1_become 134 = .ok (.getfield 41, 3) := by decide +kernel
theorem dX1_become_137 : decode cX1_become 137 = .ok (.iconst 0, 1) := by decide +kernel
theorem dX1_become_138 : decode cX1_become 138 = .ok (.bipush 8, 2) := by decide +kernel
theorem dX1_become_140 : decode cX1_become 140 = .ok (.invokestatic 47, 3) := by decide +kernel
theorem dX1_become_143 : decode cX1_become 143 = .ok (.aload_n 1, 1) := by decide +kernel
theorem dX1_become_144 : decode cX1_become 144 = .ok (.getfield 44, 3) := by decide +kernel
theorem dX1_become_147 : decode cX1_become 147 = .ok (.iconst 0, 1) := by decide +kernel
theorem dX1_become_148 : decode cX1_become 148 = .ok (.aload_n 0, 1) := by decide +kernel
theorem dX1_become_149 : decode cX1_become 149 = .ok (.getfield 44, 3) := by decide +kernel
theorem dX1_become_152 : decode cX1_become 152 = .ok (.iconst 0, 1) := by decide +kernel
theorem dX1_become_153 : decode cX1_become 153 = .ok (.bipush 8, 2) := by decide +kernel
theorem dX1_become_155 : decode cX1_become 155 = .ok (.invokestatic 47, 3) := by decide +kernel
theorem dX1_become_158 : decode cX1_become 158 = .ok (.return_, 1) := by decide +kernel
theorem dX1_total_0 : decode cX1_total 0 = .ok (.iconst 0, 1) := by decide +kernel
theorem dX1_total_1 : decode cX1_total 1 = .ok (.istore_n 1, 1) := by decide +kernel
theorem dX1_total_2 : decode cX1_total 2 = .ok (.aload_n 0, 1) := by decide +kernel
theorem dX1_total_3 : decode cX1_total 3 = .ok (.astore_n 2, 1) := by decide +kernel
theorem dX1_total_4 : decode cX1_total 4 = .ok (.aload_n 2, 1) := by decide +kernel
theorem dX1_total_5 : decode cX1_total 5 = .ok (.arraylength, 1) := by decide +kernel
theorem dX1_total_6 : decode cX1_total 6 = .ok (.istore_n 3, 1) := by decide +kernel
theorem dX1_total_7 : decode cX1_total 7 = .ok (.iconst 0, 1) := by decide +kernel
theorem dX1_total_8 : decode cX1_total 8 = .ok (.istore 4, 2) := by decide +kernel
theorem dX1_total_10 : decode cX1_total 10 = .ok (.iload 4, 2) := by decide +kernel
theorem dX1_total_12 : decode cX1_total 12 = .ok (.iload_n 3, 1) := by decide +kernel
theorem dX1_total_13 : decode cX1_total 13 = .ok (.if_icmp .ge 20, 3) := by decide +kernel
theorem dX1_total_16 : decode cX1_total 16 = .ok (.aload_n 2, 1) := by decide +kernel
theorem dX1_total_17 : decode cX1_total 17 = .ok (.iload 4, 2) := by decide +kernel
theorem dX1_total_19 : decode cX1_total 19 = .ok (.iaload, 1) := by decide +kernel
theorem dX1_total_20 : decode cX1_total 20 = .ok (.istore 5, 2) := by decide +kernel
theorem dX1_total_22 : decode cX1_total 22 = .ok (.iload_n 1, 1) := by decide +kernel
theorem dX1_total_23 : decode cX1_total 23 = .ok (.iload 5, 2) := by decide +kernel
theorem dX1_total_25 : decode cX1_total 25 = .ok (.iadd, 1) := by decide +kernel
theorem dX1_total_26 : decode cX1_total 26 = .ok (.istore_n 1, 1) := by decide +kernel
theorem dX1_total_27 : decode cX1_total 27 = .ok (.iinc 4 1, 3) := by decide +kernel
theorem dX1_total_30 : decode cX1_total 30 = .ok (.goto (-20), 3) := by decide +kernel
theorem dX1_total_33 : decode cX1_total 33 = .ok (.iload_n 1, 1) := by decide +kernel
theorem dX1_total_34 : decode cX1_total 34 = .ok (.ireturn, 1) := by decide +kernel
theorem dX1_rowOfFarms_0 : decode cX1_rowOfFarms 0 = .ok (.iload_n 1, 1) := by decide +kernel
theorem dX1_rowOfFarms_1 : decode cX1_rowOfFarms 1 = .ok (.tableswitch 42 0 2 #[27, 32, 37], 27) := by decide +kernel
theorem dX1_rowOfFarms_28 : decode cX1_rowOfFarms 28 = .ok (.aload_n 0, 1) := by decide +kernel
theorem dX1_rowOfFarms_29 : decode cX1_rowOfFarms 29 = .ok (.getfield 7, 3) := by decide +kernel
theorem dX1_rowOfFarms_32 : decode cX1_rowOfFarms 32 = .ok (.areturn, 1) := by decide +kernel
theorem dX1_rowOfFarms_33 : decode cX1_rowOfFarms 33 = .ok (.aload_n 0, 1) := by decide +kernel
theorem dX1_rowOfFarms_34 : decode cX1_rowOfFarms 34 = .ok (.getfield 13, 3) := by decide +kernel
theorem dX1_rowOfFarms_37 : decode cX1_rowOfFarms 37 = .ok (.areturn, 1) := by decide +kernel
theorem dX1_rowOfFarms_38 : decode cX1_rowOfFarms 38 = .ok (.aload_n 0, 1) := by decide +kernel
theorem dX1_rowOfFarms_39 : decode cX1_rowOfFarms 39 = .ok (.getfield 16, 3) := by decide +kernel
theorem dX1_rowOfFarms_42 : decode cX1_rowOfFarms 42 = .ok (.areturn, 1) := by decide +kernel
theorem dX1_rowOfFarms_43 : decode cX1_rowOfFarms 43 = .ok (.aload_n 0, 1) := by decide +kernel
theorem dX1_rowOfFarms_44 : decode cX1_rowOfFarms 44 = .ok (.getfield 19, 3) := by decide +kernel
theorem dX1_rowOfFarms_47 : decode cX1_rowOfFarms 47 = .ok (.areturn, 1) := by decide +kernel
theorem dX1_leastOfFarm_0 : decode cX1_leastOfFarm 0 = .ok (.iload_n 0, 1) := by decide +kernel
theorem dX1_leastOfFarm_1 : decode cX1_leastOfFarm 1 = .ok (.iconst 3, 1) := by decide +kernel
theorem dX1_leastOfFarm_2 : decode cX1_leastOfFarm 2 = .ok (.if_icmp .ne 7, 3) := by decide +kernel
theorem dX1_leastOfFarm_5 : decode cX1_leastOfFarm 5 = .ok (.iconst (-1), 1) := by decide +kernel
theorem dX1_leastOfFarm_6 : decode cX1_leastOfFarm 6 = .ok (.goto 4, 3) := by decide +kernel
theorem dX1_leastOfFarm_9 : decode cX1_leastOfFarm 9 = .ok (.iconst 0, 1) := by decide +kernel
theorem dX1_leastOfFarm_10 : decode cX1_leastOfFarm 10 = .ok (.ireturn, 1) := by decide +kernel
theorem dX1_mostOfFarm_0 : decode cX1_mostOfFarm 0 = .ok (.iload_n 1, 1) := by decide +kernel
theorem dX1_mostOfFarm_1 : decode cX1_mostOfFarm 1 = .ok (.lookupswitch 37 #[(0, 27), (3, 30)], 27) := by decide +kernel
theorem dX1_mostOfFarm_28 : decode cX1_mostOfFarm 28 = .ok (.bipush 20, 2) := by decide +kernel
theorem dX1_mostOfFarm_30 : decode cX1_mostOfFarm 30 = .ok (.ireturn, 1) := by decide +kernel
theorem dX1_mostOfFarm_31 : decode cX1_mostOfFarm 31 = .ok (.aload_n 0, 1) := by decide +kernel
theorem dX1_mostOfFarm_32 : decode cX1_mostOfFarm 32 = .ok (.getfield 32, 3) := by decide +kernel
theorem dX1_mostOfFarm_35 : decode cX1_mostOfFarm 35 = .ok (.iconst 1, 1) := by decide +kernel
theorem dX1_mostOfFarm_36 : decode cX1_mostOfFarm 36 = .ok (.isub, 1) := by decide +kernel
theorem dX1_mostOfFarm_37 : decode cX1_mostOfFarm 37 = .ok (.ireturn, 1) := by decide +kernel
theorem dX1_mostOfFarm_38 : decode cX1_mostOfFarm 38 = .ok (.sipush 9999, 3) := by decide +kernel
theorem dX1_mostOfFarm_41 : decode cX1_mostOfFarm 41 = .ok (.ireturn, 1) := by decide +kernel
theorem dX1_rowOfPeople_0 : decode cX1_rowOfPeople 0 = .ok (.iload_n 1, 1) := by decide +kernel
theorem dX1_rowOfPeople_1 : decode cX1_rowOfPeople 1 = .ok (.tableswitch 42 1 3 #[27, 32, 37], 27) := by decide +kernel
theorem dX1_rowOfPeople_28 : decode cX1_rowOfPeople 28 = .ok (.aload_n 0, 1) := by decide +kernel
theorem dX1_rowOfPeople_29 : decode cX1_rowOfPeople 29 = .ok (.getfield 38, 3) := by decide +kernel
theorem dX1_rowOfPeople_32 : decode cX1_rowOfPeople 32 = .ok (.areturn, 1) := by decide +kernel
theorem dX1_rowOfPeople_33 : decode cX1_rowOfPeople 33 = .ok (.aload_n 0, 1) := by decide +kernel
theorem dX1_rowOfPeople_34 : decode cX1_rowOfPeople 34 = .ok (.getfield 41, 3) := by decide +kernel
theorem dX1_rowOfPeople_37 : decode cX1_rowOfPeople 37 = .ok (.areturn, 1) := by decide +kernel
theorem dX1_rowOfPeople_38 : decode cX1_rowOfPeople 38 = .ok (.aload_n 0, 1) := by decide +kernel
theorem dX1_rowOfPeople_39 : decode cX1_rowOfPeople 39 = .ok (.getfield 44, 3) := by decide +kernel
theorem dX1_rowOfPeople_42 : decode cX1_rowOfPeople 42 = .ok (.areturn, 1) := by decide +kernel
theorem dX1_rowOfPeople_43 : decode cX1_rowOfPeople 43 = .ok (.aload_n 0, 1) := by decide +kernel
theorem dX1_rowOfPeople_44 : decode cX1_rowOfPeople 44 = .ok (.getfield 35, 3) := by decide +kernel
theorem dX1_rowOfPeople_47 : decode cX1_rowOfPeople 47 = .ok (.areturn, 1) := by decide +kernel
theorem dX1_mostOfPerson_0 : decode cX1_mostOfPerson 0 = .ok (.iload_n 1, 1) := by decide +kernel
theorem dX1_mostOfPerson_1 : decode cX1_mostOfPerson 1 = .ok (.lookupswitch 38 #[(1, 27), (2, 31)], 27) := by decide +kernel
theorem dX1_mostOfPerson_28 : decode cX1_mostOfPerson 28 = .ok (.sipush 255, 3) := by decide +kernel
theorem dX1_mostOfPerson_31 : decode cX1_mostOfPerson 31 = .ok (.ireturn, 1) := by decide +kernel
theorem dX1_mostOfPerson_32 : decode cX1_mostOfPerson 32 = .ok (.aload_n 0, 1) := by decide +kernel
theorem dX1_mostOfPerson_33 : decode cX1_mostOfPerson 33 = .ok (.getfield 32, 3) := by decide +kernel
theorem dX1_mostOfPerson_36 : decode cX1_mostOfPerson 36 = .ok (.iconst 1, 1) := by decide +kernel
theorem dX1_mostOfPerson_37 : decode cX1_mostOfPerson 37 = .ok (.isub, 1) := by decide +kernel
theorem dX1_mostOfPerson_38 : decode cX1_mostOfPerson 38 = .ok (.ireturn, 1) := by decide +kernel
theorem dX1_mostOfPerson_39 : decode cX1_mostOfPerson 39 = .ok (.bipush 9, 2) := by decide +kernel
theorem dX1_mostOfPerson_41 : decode cX1_mostOfPerson 41 = .ok (.ireturn, 1) := by decide +kernel
theorem dX1_isThere_0 : decode cX1_isThere 0 = .ok (.iload_n 1, 1) := by decide +kernel
theorem dX1_isThere_1 : decode cX1_isThere 1 = .ok (.ifCond .lt 15, 3) := by decide +kernel
theorem dX1_isThere_4 : decode cX1_isThere 4 = .ok (.iload_n 1, 1) := by decide +kernel
theorem dX1_isThere_5 : decode cX1_isThere 5 = .ok (.aload_n 0, 1) := by decide +kernel
theorem dX1_isThere_6 : decode cX1_isThere 6 = .ok (.getfield 32, 3) := by decide +kernel
theorem dX1_isThere_9 : decode cX1_isThere 9 = .ok (.if_icmp .ge 7, 3) := by decide +kernel
theorem dX1_isThere_12 : decode cX1_isThere 12 = .ok (.iconst 1, 1) := by decide +kernel
theorem dX1_isThere_13 : decode cX1_isThere 13 = .ok (.goto 4, 3) := by decide +kernel
theorem dX1_isThere_16 : decode cX1_isThere 16 = .ok (.iconst 0, 1) := by decide +kernel
theorem dX1_isThere_17 : decode cX1_isThere 17 = .ok (.ireturn, 1) := by decide +kernel
theorem dX1_addPerson_0 : decode cX1_addPerson 0 = .ok (.aload_n 0, 1) := by decide +kernel
theorem dX1_addPerson_1 : decode cX1_addPerson 1 = .ok (.getfield 32, 3) := by decide +kernel
theorem dX1_addPerson_4 : decode cX1_addPerson 4 = .ok (.bipush 8, 2) := by decide +kernel
theorem dX1_addPerson_6 : decode cX1_addPerson 6 = .ok (.if_icmp .lt 5, 3) := by decide +kernel
theorem dX1_addPerson_9 : decode cX1_addPerson 9 = .ok (.iconst (-1), 1) := by decide +kernel
theorem dX1_addPerson_10 : decode cX1_addPerson 10 = .ok (.ireturn, 1) := by decide +kernel
theorem dX1_addPerson_11 : decode cX1_addPerson 11 = .ok (.aload_n 0, 1) := by decide +kernel
theorem dX1_addPerson_12 : decode cX1_addPerson 12 = .ok (.getfield 32, 3) := by decide +kernel
theorem dX1_addPerson_15 : decode cX1_addPerson 15 = .ok (.istore_n 2, 1) := by decide +kernel
theorem dX1_addPerson_16 : decode cX1_addPerson 16 = .ok (.aload_n 0, 1) := by decide +kernel
theorem dX1_addPerson_17 : decode cX1_addPerson 17 = .ok (.getfield 35, 3) := by decide +kernel
theorem dX1_addPerson_20 : decode cX1_addPerson 20 = .ok (.iload_n 2, 1) := by decide +kernel
theorem dX1_addPerson_21 : decode cX1_addPerson 21 = .ok (.iload_n 1, 1) := by decide +kernel
theorem dX1_addPerson_22 : decode cX1_addPerson 22 = .ok (.iastore, 1) := by decide +kernel
theorem dX1_addPerson_23 : decode cX1_addPerson 23 = .ok (.aload_n 0, 1) := by decide +kernel
theorem dX1_addPerson_24 : decode cX1_addPerson 24 = .ok (.getfield 38, 3) := by decide +kernel
theorem dX1_addPerson_27 : decode cX1_addPerson 27 = .ok (.iload_n 2, 1) := by decide +kernel
theorem dX1_addPerson_28 : decode cX1_addPerson 28 = .ok (.iconst 0, 1) := by decide +kernel
theorem dX1_addPerson_29 : decode cX1_addPerson 29 = .ok (.iastore, 1) := by decide +kernel
theorem dX1_addPerson_30 : decode cX1_addPerson 30 = .ok (.aload_n 0, 1) := by decide +kernel
theorem dX1_addPerson_31 : decode cX1_addPerson 31 = .ok (.getfield 41, 3) := by decide +kernel
theorem dX1_addPerson_34 : decode cX1_addPerson 34 = .ok (.iload_n 2, 1) := by decide +kernel
theorem dX1_addPerson_35 : decode cX1_addPerson 35 = .ok (.iload_n 2, 1) := by decide +kernel
theorem dX1_addPerson_36 : decode cX1_addPerson 36 = .ok (.iastore, 1) := by decide +kernel
theorem dX1_addPerson_37 : decode cX1_addPerson 37 = .ok (.aload_n 0, 1) := by decide +kernel
theorem dX1_addPerson_38 : decode cX1_addPerson 38 = .ok (.getfield 44, 3) := by decide +kernel
theorem dX1_addPerson_41 : decode cX1_addPerson 41 = .ok (.iload_n 2, 1) := by decide +kernel
theorem dX1_addPerson_42 : decode cX1_addPerson 42 = .ok (.iconst 0, 1) := by decide +kernel
theorem dX1_addPerson_43 : decode cX1_addPerson 43 = .ok (.iastore, 1) := by decide +kernel
theorem dX1_addPerson_44 : decode cX1_addPerson 44 = .ok (.aload_n 0, 1) := by decide +kernel
theorem dX1_addPerson_45 : decode cX1_addPerson 45 = .ok (.dup, 1) := by decide +kernel
theorem dX1_addPerson_46 : decode cX1_addPerson 46 = .ok (.getfield 32, 3) := by decide +kernel
theorem dX1_addPerson_49 : decode cX1_addPerson 49 = .ok (.iconst 1, 1) := by decide +kernel
theorem dX1_addPerson_50 : decode cX1_addPerson 50 = .ok (.iadd, 1) := by decide +kernel
theorem dX1_addPerson_51 : decode cX1_addPerson 51 = .ok (.putfield 32, 3) := by decide +kernel
theorem dX1_addPerson_54 : decode cX1_addPerson 54 = .ok (.iload_n 2, 1) := by decide +kernel
theorem dX1_addPerson_55 : decode cX1_addPerson 55 = .ok (.ireturn, 1) := by decide +kernel
set_option maxRecDepth 20000 in
theorem ggX1_deservedBy_X0_deserved : GoodIn wsX1_deservedBy wsX0_deserved := goodIn_r _ [6, 7, 8, 9, 10, 11, 12, 13, 14, 15, 16, 17] rfl (by decide +kernel)
set_option maxRecDepth 20000 in
theorem gX1_deservedBy_X0_deserved : GoodIn wsX1_deservedBy (va_wsS RX1 55 yX0_deserved wsX0_deserved) := goodIn_app (goodIn_of _ (by decide +kernel)) ggX1_deservedBy_X0_deserved
theorem dX1_deservedBy_0 : decode cX1_deservedBy 0 = .ok (.aload_n 0, 1) := by decide +kernel
theorem dX1_deservedBy_1 : decode cX1_deservedBy 1 = .ok (.getfield 35, 3) := by decide +kernel
theorem dX1_deservedBy_4 : decode cX1_deservedBy 4 = .ok (.iload_n 1, 1) := by decide +kernel
theorem dX1_deservedBy_5 : decode cX1_deservedBy 5 = .ok (.iaload, 1) := by decide +kernel
theorem dX1_deservedBy_6 : decode cX1_deservedBy 6 = .ok (.aload_n 0, 1) := by decide +kernel
theorem dX1_deservedBy_7 : decode cX1_deservedBy 7 = .ok (.getfield 38, 3) := by decide +kernel
theorem dX1_deservedBy_10 : decode cX1_deservedBy 10 = .ok (.iload_n 1, 1) := by decide +kernel
theorem dX1_deservedBy_11 : decode cX1_deservedBy 11 = .ok (.iaload, 1) := by decide +kernel
theorem dX1_deservedBy_12 : decode cX1_deservedBy 12 = .ok (.invokestatic 55, 3) := by decide +kernel
theorem dX1_deservedBy_15 : decode cX1_deservedBy 15 = .ok (.ireturn, 1) := by decide +kernel
set_option maxRecDepth 20000 in
theorem ggX1_givenTo_X1_gift : GoodIn wsX1_givenTo wsX1_gift := goodIn_r _ [8, 1, 2, 9, 10, 11, 12, 13, 14, 15, 16, 17, 18, 19, 20, 21, 22, 23, 24, 25, 26, 27, 28, 29, 30, 31, 32, 33, 34, 35, 36, 37, 38, 39, 40, 41] rfl (by decide +kernel)
set_option maxRecDepth 20000 in
theorem gX1_givenTo_X1_gift : GoodIn wsX1_givenTo (wsV RX1 59 RX1 yX1_gift wsX1_gift) := goodIn_app (goodIn_of _ (by decide +kernel)) ggX1_givenTo_X1_gift
theorem dX1_givenTo_0 : decode cX1_givenTo 0 = .ok (.aload_n 0, 1) := by decide +kernel
theorem dX1_givenTo_1 : decode cX1_givenTo 1 = .ok (.iload_n 1, 1) := by decide +kernel
theorem dX1_givenTo_2 : decode cX1_givenTo 2 = .ok (.aload_n 0, 1) := by decide +kernel
theorem dX1_givenTo_3 : decode cX1_givenTo 3 = .ok (.getfield 35, 3) := by decide +kernel
theorem dX1_givenTo_6 : decode cX1_givenTo 6 = .ok (.iload_n 1, 1) := by decide +kernel
theorem dX1_givenTo_7 : decode cX1_givenTo 7 = .ok (.iaload, 1) := by decide +kernel
theorem dX1_givenTo_8 : decode cX1_givenTo 8 = .ok (.aload_n 0, 1) := by decide +kernel
theorem dX1_givenTo_9 : decode cX1_givenTo 9 = .ok (.getfield 38, 3) := by decide +kernel
theorem dX1_givenTo_12 : decode cX1_givenTo 12 = .ok (.iload_n 1, 1) := by decide +kernel
theorem dX1_givenTo_13 : decode cX1_givenTo 13 = .ok (.iaload, 1) := by decide +kernel
theorem dX1_givenTo_14 : decode cX1_givenTo 14 = .ok (.aload_n 0, 1) := by decide +kernel
theorem dX1_givenTo_15 : decode cX1_givenTo 15 = .ok (.getfield 41, 3) := by decide +kernel
theorem dX1_givenTo_18 : decode cX1_givenTo 18 = .ok (.iload_n 1, 1) := by decide +kernel
theorem dX1_givenTo_19 : decode cX1_givenTo 19 = .ok (.iaload, 1) := by decide +kernel
theorem dX1_givenTo_20 : decode cX1_givenTo 20 = .ok (.invokevirtual 59, 3) := by decide +kernel
theorem dX1_givenTo_23 : decode cX1_givenTo 23 = .ok (.ireturn, 1) := by decide +kernel
set_option maxRecDepth 20000 in
theorem ggX1_gift_X0_deserved : GoodIn wsX1_gift wsX0_deserved := goodIn_r _ [15, 16, 5, 6, 7, 17, 18, 19, 20, 21, 22, 23] rfl (by decide +kernel)
set_option maxRecDepth 20000 in
theorem gX1_gift_X0_deserved : GoodIn wsX1_gift (va_wsS RX1 55 yX0_deserved wsX0_deserved) := goodIn_app (goodIn_of _ (by decide +kernel)) ggX1_gift_X0_deserved
theorem dX1_gift_0 : decode cX1_gift 0 = .ok (.iload_n 2, 1) := by decide +kernel
theorem dX1_gift_1 : decode cX1_gift 1 = .ok (.iconst 4, 1) := by decide +kernel
theorem dX1_gift_2 : decode cX1_gift 2 = .ok (.if_icmp .ne 44, 3) := by decide +kernel
theorem dX1_gift_5 : decode cX1_gift 5 = .ok (.iload 4, 2) := by decide +kernel
theorem dX1_gift_7 : decode cX1_gift 7 = .ok (.iload_n 1, 1) := by decide +kernel
theorem dX1_gift_8 : decode cX1_gift 8 = .ok (.if_icmp .eq 38, 3) := by decide +kernel
theorem dX1_gift_11 : decode cX1_gift 11 = .ok (.iconst 0, 1) := by decide +kernel
theorem dX1_gift_12 : decode cX1_gift 12 = .ok (.aload_n 0, 1) := by decide +kernel
theorem dX1_gift_13 : decode cX1_gift 13 = .ok (.getfield 35, 3) := by decide +kernel
theorem dX1_gift_16 : decode cX1_gift 16 = .ok (.iload 4, 2) := by decide +kernel
theorem dX1_gift_18 : decode cX1_gift 18 = .ok (.iaload, 1) := by decide +kernel
theorem dX1_gift_19 : decode cX1_gift 19 = .ok (.aload_n 0, 1) := by decide +kernel
theorem dX1_gift_20 : decode cX1_gift 20 = .ok (.getfield 38, 3) := by decide +kernel
theorem dX1_gift_23 : decode cX1_gift 23 = .ok (.iload 4, 2) := by decide +kernel
theorem dX1_gift_25 : decode cX1_gift 25 = .ok (.iaload, 1) := by decide +kernel
theorem dX1_gift_26 : decode cX1_gift 26 = .ok (.invokestatic 55, 3) := by decide +kernel
theorem dX1_gift_29 : decode cX1_gift 29 = .ok (.aload_n 0, 1) := by decide +kernel
theorem dX1_gift_30 : decode cX1_gift 30 = .ok (.getfield 22, 3) := by decide +kernel
theorem dX1_gift_33 : decode cX1_gift 33 = .ok (.iconst 2, 1) := by decide +kernel
theorem dX1_gift_34 : decode cX1_gift 34 = .ok (.iaload, 1) := by decide +kernel
theorem dX1_gift_35 : decode cX1_gift 35 = .ok (.iadd, 1) := by decide +kernel
theorem dX1_gift_36 : decode cX1_gift 36 = .ok (.iconst 1, 1) := by decide +kernel
theorem dX1_gift_37 : decode cX1_gift 37 = .ok (.isub, 1) := by decide +kernel
theorem dX1_gift_38 : decode cX1_gift 38 = .ok (.invokestatic 63, 3) := by decide +kernel
theorem dX1_gift_41 : decode cX1_gift 41 = .ok (.istore 5, 2) := by decide +kernel
theorem dX1_gift_43 : decode cX1_gift 43 = .ok (.goto 17, 3) := by decide +kernel
theorem dX1_gift_46 : decode cX1_gift 46 = .ok (.iload_n 2, 1) := by decide +kernel
theorem dX1_gift_47 : decode cX1_gift 47 = .ok (.iload_n 3, 1) := by decide +kernel
theorem dX1_gift_48 : decode cX1_gift 48 = .ok (.invokestatic 55, 3) := by decide +kernel
theorem dX1_gift_51 : decode cX1_gift 51 = .ok (.aload_n 0, 1) := by decide +kernel
theorem dX1_gift_52 : decode cX1_gift 52 = .ok (.getfield 22, 3) := by decide +kernel
theorem dX1_gift_55 : decode cX1_gift 55 = .ok (.iconst 2, 1) := by decide +kernel
theorem dX1_gift_56 : decode cX1_gift 56 = .ok (.iaload, 1) := by decide +kernel
theorem dX1_gift_57 : decode cX1_gift 57 = .ok (.iadd, 1) := by decide +kernel
theorem dX1_gift_58 : decode cX1_gift 58 = .ok (.istore 5, 2) := by decide +kernel
theorem dX1_gift_60 : decode cX1_gift 60 = .ok (.iload 5, 2) := by decide +kernel
theorem dX1_gift_62 : decode cX1_gift 62 = .ok (.aload_n 0, 1) := by decide +kernel
theorem dX1_gift_63 : decode cX1_gift 63 = .ok (.getfield 44, 3) := by decide +kernel
theorem dX1_gift_66 : decode cX1_gift 66 = .ok (.iload_n 1, 1) := by decide +kernel
theorem dX1_gift_67 : decode cX1_gift 67 = .ok (.iaload, 1) := by decide +kernel
theorem dX1_gift_68 : decode cX1_gift 68 = .ok (.ishr, 1) := by decide +kernel
theorem dX1_gift_69 : decode cX1_gift 69 = .ok (.aload_n 0, 1) := by decide +kernel
theorem dX1_gift_70 : decode cX1_gift 70 = .ok (.getfield 22, 3) := by decide +kernel
theorem dX1_gift_73 : decode cX1_gift 73 = .ok (.iconst 0, 1) := by decide +kernel
theorem dX1_gift_74 : decode cX1_gift 74 = .ok (.iaload, 1) := by decide +kernel
theorem dX1_gift_75 : decode cX1_gift 75 = .ok (.invokestatic 68, 3) := by decide +kernel
theorem dX1_gift_78 : decode cX1_gift 78 = .ok (.ireturn, 1) := by decide +kernel
set_option maxRecDepth 20000 in
theorem ggX1_draw_X1_gift : GoodIn wsX1_draw wsX1_gift := goodIn_r _ [15, 1, 2, 9, 16, 17, 7, 18, 10, 5, 6, 8, 19, 20, 21, 22, 23, 24, 25, 26, 27, 28, 29, 30, 31, 32, 33, 34, 35, 36, 37, 38, 39, 40, 41, 42] rfl (by decide +kernel)
set_option maxRecDepth 20000 in
theorem gX1_draw_X1_gift : GoodIn wsX1_draw (wsV RX1 59 RX1 yX1_gift wsX1_gift) := goodIn_app (goodIn_of _ (by decide +kernel)) ggX1_draw_X1_gift
theorem dX1_draw_0 : decode cX1_draw 0 = .ok (.aload_n 0, 1) := by decide +kernel
theorem dX1_draw_1 : decode cX1_draw 1 = .ok (.iload_n 1, 1) := by decide +kernel
theorem dX1_draw_2 : decode cX1_draw 2 = .ok (.aload_n 0, 1) := by decide +kernel
theorem dX1_draw_3 : decode cX1_draw 3 = .ok (.getfield 35, 3) := by decide +kernel
theorem dX1_draw_6 : decode cX1_draw 6 = .ok (.iload_n 1, 1) := by decide +kernel
theorem dX1_draw_7 : decode cX1_draw 7 = .ok (.iaload, 1) := by decide +kernel
theorem dX1_draw_8 : decode cX1_draw 8 = .ok (.aload_n 0, 1) := by decide +kernel
theorem dX1_draw_9 : decode cX1_draw 9 = .ok (.getfield 38, 3) := by decide +kernel
theorem dX1_draw_12 : decode cX1_draw 12 = .ok (.iload_n 1, 1) := by decide +kernel
theorem dX1_draw_13 : decode cX1_draw 13 = .ok (.iaload, 1) := by decide +kernel
theorem dX1_draw_14 : decode cX1_draw 14 = .ok (.aload_n 0, 1) := by decide +kernel
theorem dX1_draw_15 : decode cX1_draw 15 = .ok (.getfield 41, 3) := by decide +kernel
theorem dX1_draw_18 : decode cX1_draw 18 = .ok (.iload_n 1, 1) := by decide +kernel
theorem dX1_draw_19 : decode cX1_draw 19 = .ok (.iaload, 1) := by decide +kernel
theorem dX1_draw_20 : decode cX1_draw 20 = .ok (.invokevirtual 59, 3) := by decide +kernel
theorem dX1_draw_23 : decode cX1_draw 23 = .ok (.istore_n 3, 1) := by decide +kernel
theorem dX1_draw_24 : decode cX1_draw 24 = .ok (.aload_n 0, 1) := by decide +kernel
theorem dX1_draw_25 : decode cX1_draw 25 = .ok (.getfield 13, 3) := by decide +kernel
theorem dX1_draw_28 : decode cX1_draw 28 = .ok (.iload_n 2, 1) := by decide +kernel
theorem dX1_draw_29 : decode cX1_draw 29 = .ok (.sipush 9999, 3) := by decide +kernel
theorem dX1_draw_32 : decode cX1_draw 32 = .ok (.aload_n 0, 1) := by decide +kernel
theorem dX1_draw_33 : decode cX1_draw 33 = .ok (.getfield 13, 3) := by decide +kernel
theorem dX1_draw_36 : decode cX1_draw 36 = .ok (.iload_n 2, 1) := by decide +kernel
theorem dX1_draw_37 : decode cX1_draw 37 = .ok (.iaload, 1) := by decide +kernel
theorem dX1_draw_38 : decode cX1_draw 38 = .ok (.iload_n 3, 1) := by decide +kernel
theorem dX1_draw_39 : decode cX1_draw 39 = .ok (.iadd, 1) := by decide +kernel
theorem dX1_draw_40 : decode cX1_draw 40 = .ok (.invokestatic 68, 3) := by decide +kernel
theorem dX1_draw_43 : decode cX1_draw 43 = .ok (.iastore, 1) := by decide +kernel
theorem dX1_draw_44 : decode cX1_draw 44 = .ok (.aload_n 0, 1) := by decide +kernel
theorem dX1_draw_45 : decode cX1_draw 45 = .ok (.getfield 22, 3) := by decide +kernel
theorem dX1_draw_48 : decode cX1_draw 48 = .ok (.iconst 0, 1) := by decide +kernel
theorem dX1_draw_49 : decode cX1_draw 49 = .ok (.dup2, 1) := by decide +kernel
theorem dX1_draw_50 : decode cX1_draw 50 = .ok (.iaload, 1) := by decide +kernel
theorem dX1_draw_51 : decode cX1_draw 51 = .ok (.iload_n 3, 1) := by decide +kernel
theorem dX1_draw_52 : decode cX1_draw 52 = .ok (.isub, 1) := by decide +kernel
theorem dX1_draw_53 : decode cX1_draw 53 = .ok (.iastore, 1) := by decide +kernel
theorem dX1_draw_54 : decode cX1_draw 54 = .ok (.aload_n 0, 1) := by decide +kernel
theorem dX1_draw_55 : decode cX1_draw 55 = .ok (.getfield 44, 3) := by decide +kernel
theorem dX1_draw_58 : decode cX1_draw 58 = .ok (.iload_n 1, 1) := by decide +kernel
theorem dX1_draw_59 : decode cX1_draw 59 = .ok (.bipush 9, 2) := by decide +kernel
theorem dX1_draw_61 : decode cX1_draw 61 = .ok (.aload_n 0, 1) := by decide +kernel
theorem dX1_draw_62 : decode cX1_draw 62 = .ok (.getfield 44, 3) := by decide +kernel
theorem dX1_draw_65 : decode cX1_draw 65 = .ok (.iload_n 1, 1) := by decide +kernel
theorem dX1_draw_66 : decode cX1_draw 66 = .ok (.iaload, 1) := by decide +kernel
theorem dX1_draw_67 : decode cX1_draw 67 = .ok (.iconst 1, 1) := by decide +kernel
theorem dX1_draw_68 : decode cX1_draw 68 = .ok (.iadd, 1) := by decide +kernel
theorem dX1_draw_69 : decode cX1_draw 69 = .ok (.invokestatic 68, 3) := by decide +kernel
theorem dX1_draw_72 : decode cX1_draw 72 = .ok (.iastore, 1) := by decide +kernel
theorem dX1_draw_73 : decode cX1_draw 73 = .ok (.iload_n 3, 1) := by decide +kernel
theorem dX1_draw_74 : decode cX1_draw 74 = .ok (.ireturn, 1) := by decide +kernel
set_option maxRecDepth 20000 in
theorem ggX1_passDay_X1_isThere : GoodIn wsX1_passDay wsX1_isThere := goodIn_r _ [16, 3, 49, 50, 51, 52, 53, 54, 55, 56, 57, 58, 59, 60] rfl (by decide +kernel)
set_option maxRecDepth 20000 in
theorem gX1_passDay_X1_isThere : GoodIn wsX1_passDay (wsV RX1 71 RX1 yX1_isThere wsX1_isThere) := goodIn_app (goodIn_of _ (by decide +kernel)) ggX1_passDay_X1_isThere
set_option maxRecDepth 20000 in
theorem ggX1_passDay_X1_draw : GoodIn wsX1_passDay wsX1_draw := goodIn_r _ [20, 21, 5, 22, 23, 7, 8, 9, 10, 6, 4, 24, 25, 26, 15, 27, 28, 29, 30, 31, 32, 33, 34, 35, 36, 37, 38, 39, 40, 41, 42, 49, 50, 51, 52, 53, 54, 55, 56, 57, 58, 59, 60] rfl (by decide +kernel)
set_option maxRecDepth 20000 in
theorem gX1_passDay_X1_draw : GoodIn wsX1_passDay (wsV RX1 75 RX1 yX1_draw wsX1_draw) := goodIn_app (goodIn_of _ (by decide +kernel)) ggX1_passDay_X1_draw
set_option maxRecDepth 20000 in
theorem ggX1_passDay_X1_useNeed : GoodIn wsX1_passDay wsX1_useNeed := goodIn_r _ [46, 23, 47, 2, 48, 7, 8, 9, 10, 49, 50, 51, 52, 53, 54, 55, 56, 57, 58, 59, 60] rfl (by decide +kernel)
set_option maxRecDepth 20000 in
theorem gX1_passDay_X1_useNeed : GoodIn wsX1_passDay (wsV RX1 78 RX1 yX1_useNeed wsX1_useNeed) := goodIn_app (goodIn_of _ (by decide +kernel)) ggX1_passDay_X1_useNeed
theorem dX1_passDay_0 : decode cX1_passDay 0 = .ok (.iconst 0, 1) := by decide +kernel
theorem dX1_passDay_1 : decode cX1_passDay 1 = .ok (.istore_n 1, 1) := by decide +kernel
theorem dX1_passDay_2 : decode cX1_passDay 2 = .ok (.iload_n 1, 1) := by decide +kernel
theorem dX1_passDay_3 : decode cX1_passDay 3 = .ok (.iconst 4, 1) := by decide +kernel
theorem dX1_passDay_4 : decode cX1_passDay 4 = .ok (.if_icmp .ge 34, 3) := by decide +kernel
theorem dX1_passDay_7 : decode cX1_passDay 7 = .ok (.aload_n 0, 1) := by decide +kernel
theorem dX1_passDay_8 : decode cX1_passDay 8 = .ok (.aload_n 0, 1) := by decide +kernel
theorem dX1_passDay_9 : decode cX1_passDay 9 = .ok (.getfield 19, 3) := by decide +kernel
theorem dX1_passDay_12 : decode cX1_passDay 12 = .ok (.iload_n 1, 1) := by decide +kernel
theorem dX1_passDay_13 : decode cX1_passDay 13 = .ok (.iaload, 1) := by decide +kernel
theorem dX1_passDay_14 : decode cX1_passDay 14 = .ok (.invokevirtual 71, 3) := by decide +kernel
theorem dX1_passDay_17 : decode cX1_passDay 17 = .ok (.ifCond .eq 15, 3) := by decide +kernel
theorem dX1_passDay_20 : decode cX1_passDay 20 = .ok (.aload_n 0, 1) := by decide +kernel
theorem dX1_passDay_21 : decode cX1_passDay 21 = .ok (.aload_n 0, 1) := by decide +kernel
theorem dX1_passDay_22 : decode cX1_passDay 22 = .ok (.getfield 19, 3) := by decide +kernel
theorem dX1_passDay_25 : decode cX1_passDay 25 = .ok (.iload_n 1, 1) := by decide +kernel
theorem dX1_passDay_26 : decode cX1_passDay 26 = .ok (.iaload, 1) := by decide +kernel
theorem dX1_passDay_27 : decode cX1_passDay 27 = .ok (.iload_n 1, 1) := by decide +kernel
theorem dX1_passDay_28 : decode cX1_passDay 28 = .ok (.invokevirtual 75, 3) := by decide +kernel
theorem dX1_passDay_31 : decode cX1_passDay 31 = .ok (.pop, 1) := by decide +kernel
theorem dX1_passDay_32 : decode cX1_passDay 32 = .ok (.iinc 1 1, 3) := by decide +kernel
theorem dX1_passDay_35 : decode cX1_passDay 35 = .ok (.goto (-33), 3) := by decide +kernel
theorem dX1_passDay_38 : decode cX1_passDay 38 = .ok (.aload_n 0, 1) := by decide +kernel
theorem dX1_passDay_39 : decode cX1_passDay 39 = .ok (.iconst 0, 1) := by decide +kernel
theorem dX1_passDay_40 : decode cX1_passDay 40 = .ok (.putfield 29, 3) := by decide +kernel
theorem dX1_passDay_43 : decode cX1_passDay 43 = .ok (.iconst 0, 1) := by decide +kernel
theorem dX1_passDay_44 : decode cX1_passDay 44 = .ok (.istore_n 1, 1) := by decide +kernel
theorem dX1_passDay_45 : decode cX1_passDay 45 = .ok (.iload_n 1, 1) := by decide +kernel
theorem dX1_passDay_46 : decode cX1_passDay 46 = .ok (.iconst 4, 1) := by decide +kernel
theorem dX1_passDay_47 : decode cX1_passDay 47 = .ok (.if_icmp .ge 14, 3) := by decide +kernel
theorem dX1_passDay_50 : decode cX1_passDay 50 = .ok (.aload_n 0, 1) := by decide +kernel
theorem dX1_passDay_51 : decode cX1_passDay 51 = .ok (.iload_n 1, 1) := by decide +kernel
theorem dX1_passDay_52 : decode cX1_passDay 52 = .ok (.invokevirtual 78, 3) := by decide +kernel
theorem dX1_passDay_55 : decode cX1_passDay 55 = .ok (.iinc 1 1, 3) := by decide +kernel
theorem dX1_passDay_58 : decode cX1_passDay 58 = .ok (.goto (-13), 3) := by decide +kernel
theorem dX1_passDay_61 : decode cX1_passDay 61 = .ok (.iconst 0, 1) := by decide +kernel
theorem dX1_passDay_62 : decode cX1_passDay 62 = .ok (.istore_n 1, 1) := by decide +kernel
theorem dX1_passDay_63 : decode cX1_passDay 63 = .ok (.iload_n 1, 1) := by decide +kernel
theorem dX1_passDay_64 : decode cX1_passDay 64 = .ok (.aload_n 0, 1) := by decide +kernel
theorem dX1_passDay_65 : decode cX1_passDay 65 = .ok (.getfield 32, 3) := by decide +kernel
theorem dX1_passDay_68 : decode cX1_passDay 68 = .ok (.if_icmp .ge 33, 3) := by decide +kernel
theorem dX1_passDay_71 : decode cX1_passDay 71 = .ok (.aload_n 0, 1) := by decide +kernel
theorem dX1_passDay_72 : decode cX1_passDay 72 = .ok (.getfield 44, 3) := by decide +kernel
theorem dX1_passDay_75 : decode cX1_passDay 75 = .ok (.iload_n 1, 1) := by decide +kernel
theorem dX1_passDay_76 : decode cX1_passDay 76 = .ok (.iconst 0, 1) := by decide +kernel
theorem dX1_passDay_77 : decode cX1_passDay 77 = .ok (.iastore, 1) := by decide +kernel
theorem dX1_passDay_78 : decode cX1_passDay 78 = .ok (.aload_n 0, 1) := by decide +kernel
theorem dX1_passDay_79 : decode cX1_passDay 79 = .ok (.getfield 38, 3) := by decide +kernel
theorem dX1_passDay_82 : decode cX1_passDay 82 = .ok (.iload_n 1, 1) := by decide +kernel
theorem dX1_passDay_83 : decode cX1_passDay 83 = .ok (.dup2, 1) := by decide +kernel
theorem dX1_passDay_84 : decode cX1_passDay 84 = .ok (.iaload, 1) := by decide +kernel
theorem dX1_passDay_85 : decode cX1_passDay 85 = .ok (.aload_n 0, 1) := by decide +kernel
theorem dX1_passDay_86 : decode cX1_passDay 86 = .ok (.getfield 38, 3) := by decide +kernel
theorem dX1_passDay_89 : decode cX1_passDay 89 = .ok (.iload_n 1, 1) := by decide +kernel
theorem dX1_passDay_90 : decode cX1_passDay 90 = .ok (.iaload, 1) := by decide +kernel
theorem dX1_passDay_91 : decode cX1_passDay 91 = .ok (.iconst 1, 1) := by decide +kernel
theorem dX1_passDay_92 : decode cX1_passDay 92 = .ok (.isub, 1) := by decide +kernel
theorem dX1_passDay_93 : decode cX1_passDay 93 = .ok (.iand, 1) := by decide +kernel
theorem dX1_passDay_94 : decode cX1_passDay 94 = .ok (.iastore, 1) := by decide +kernel
theorem dX1_passDay_95 : decode cX1_passDay 95 = .ok (.iinc 1 1, 3) := by decide +kernel
theorem dX1_passDay_98 : decode cX1_passDay 98 = .ok (.goto (-35), 3) := by decide +kernel
theorem dX1_passDay_101 : decode cX1_passDay 101 = .ok (.aload_n 0, 1) := by decide +kernel
theorem dX1_passDay_102 : decode cX1_passDay 102 = .ok (.getfield 22, 3) := by decide +kernel
theorem dX1_passDay_105 : decode cX1_passDay 105 = .ok (.iconst 0, 1) := by decide +kernel
theorem dX1_passDay_106 : decode cX1_passDay 106 = .ok (.sipush 9999, 3) := by decide +kernel
theorem dX1_passDay_109 : decode cX1_passDay 109 = .ok (.aload_n 0, 1) := by decide +kernel
theorem dX1_passDay_110 : decode cX1_passDay 110 = .ok (.getfield 22, 3) := by decide +kernel
theorem dX1_passDay_113 : decode cX1_passDay 113 = .ok (.iconst 0, 1) := by decide +kernel
theorem dX1_passDay_114 : decode cX1_passDay 114 = .ok (.iaload, 1) := by decide +kernel
theorem dX1_passDay_115 : decode cX1_passDay 115 = .ok (.aload_n 0, 1) := by decide +kernel
theorem dX1_passDay_116 : decode cX1_passDay 116 = .ok (.getfield 22, 3) := by decide +kernel
theorem dX1_passDay_119 : decode cX1_passDay 119 = .ok (.iconst 1, 1) := by decide +kernel
theorem dX1_passDay_120 : decode cX1_passDay 120 = .ok (.iaload, 1) := by decide +kernel
theorem dX1_passDay_121 : decode cX1_passDay 121 = .ok (.iadd, 1) := by decide +kernel
theorem dX1_passDay_122 : decode cX1_passDay 122 = .ok (.invokestatic 68, 3) := by decide +kernel
theorem dX1_passDay_125 : decode cX1_passDay 125 = .ok (.iastore, 1) := by decide +kernel
theorem dX1_passDay_126 : decode cX1_passDay 126 = .ok (.aload_n 0, 1) := by decide +kernel
theorem dX1_passDay_127 : decode cX1_passDay 127 = .ok (.dup, 1) := by decide +kernel
theorem dX1_passDay_128 : decode cX1_passDay 128 = .ok (.getfield 25, 3) := by decide +kernel
theorem dX1_passDay_131 : decode cX1_passDay 131 = .ok (.iconst 1, 1) := by decide +kernel
theorem dX1_passDay_132 : decode cX1_passDay 132 = .ok (.iadd, 1) := by decide +kernel
theorem dX1_passDay_133 : decode cX1_passDay 133 = .ok (.putfield 25, 3) := by decide +kernel
theorem dX1_passDay_136 : decode cX1_passDay 136 = .ok (.return_, 1) := by decide +kernel
theorem dX1_useNeed_0 : decode cX1_useNeed 0 = .ok (.aload_n 0, 1) := by decide +kernel
theorem dX1_useNeed_1 : decode cX1_useNeed 1 = .ok (.getfield 13, 3) := by decide +kernel
theorem dX1_useNeed_4 : decode cX1_useNeed 4 = .ok (.iload_n 1, 1) := by decide +kernel
theorem dX1_useNeed_5 : decode cX1_useNeed 5 = .ok (.iaload, 1) := by decide +kernel
theorem dX1_useNeed_6 : decode cX1_useNeed 6 = .ok (.aload_n 0, 1) := by decide +kernel
theorem dX1_useNeed_7 : decode cX1_useNeed 7 = .ok (.getfield 7, 3) := by decide +kernel
theorem dX1_useNeed_10 : decode cX1_useNeed 10 = .ok (.iload_n 1, 1) := by decide +kernel
theorem dX1_useNeed_11 : decode cX1_useNeed 11 = .ok (.iaload, 1) := by decide +kernel
theorem dX1_useNeed_12 : decode cX1_useNeed 12 = .ok (.if_icmp .lt 19, 3) := by decide +kernel
theorem dX1_useNeed_15 : decode cX1_useNeed 15 = .ok (.aload_n 0, 1) := by decide +kernel
theorem dX1_useNeed_16 : decode cX1_useNeed 16 = .ok (.getfield 13, 3) := by decide +kernel
theorem dX1_useNeed_19 : decode cX1_useNeed 19 = .ok (.iload_n 1, 1) := by decide +kernel
theorem dX1_useNeed_20 : decode cX1_useNeed 20 = .ok (.dup2, 1) := by decide +kernel
theorem dX1_useNeed_21 : decode cX1_useNeed 21 = .ok (.iaload, 1) := by decide +kernel
theorem dX1_useNeed_22 : decode cX1_useNeed 22 = .ok (.aload_n 0, 1) := by decide +kernel
theorem dX1_useNeed_23 : decode cX1_useNeed 23 = .ok (.getfield 7, 3) := by decide +kernel
theorem dX1_useNeed_26 : decode cX1_useNeed 26 = .ok (.iload_n 1, 1) := by decide +kernel
theorem dX1_useNeed_27 : decode cX1_useNeed 27 = .ok (.iaload, 1) := by decide +kernel
theorem dX1_useNeed_28 : decode cX1_useNeed 28 = .ok (.isub, 1) := by decide +kernel
theorem dX1_useNeed_29 : decode cX1_useNeed 29 = .ok (.iastore, 1) := by decide +kernel
theorem dX1_useNeed_30 : decode cX1_useNeed 30 = .ok (.return_, 1) := by decide +kernel
theorem dX1_useNeed_31 : decode cX1_useNeed 31 = .ok (.aload_n 0, 1) := by decide +kernel
theorem dX1_useNeed_32 : decode cX1_useNeed 32 = .ok (.dup, 1) := by decide +kernel
theorem dX1_useNeed_33 : decode cX1_useNeed 33 = .ok (.getfield 29, 3) := by decide +kernel
theorem dX1_useNeed_36 : decode cX1_useNeed 36 = .ok (.iconst 1, 1) := by decide +kernel
theorem dX1_useNeed_37 : decode cX1_useNeed 37 = .ok (.iload_n 1, 1) := by decide +kernel
theorem dX1_useNeed_38 : decode cX1_useNeed 38 = .ok (.ishl, 1) := by decide +kernel
theorem dX1_useNeed_39 : decode cX1_useNeed 39 = .ok (.ior, 1) := by decide +kernel
theorem dX1_useNeed_40 : decode cX1_useNeed 40 = .ok (.putfield 29, 3) := by decide +kernel
theorem dX1_useNeed_43 : decode cX1_useNeed 43 = .ok (.aload_n 0, 1) := by decide +kernel
theorem dX1_useNeed_44 : decode cX1_useNeed 44 = .ok (.getfield 16, 3) := by decide +kernel
theorem dX1_useNeed_47 : decode cX1_useNeed 47 = .ok (.iload_n 1, 1) := by decide +kernel
theorem dX1_useNeed_48 : decode cX1_useNeed 48 = .ok (.sipush 9999, 3) := by decide +kernel
theorem dX1_useNeed_51 : decode cX1_useNeed 51 = .ok (.aload_n 0, 1) := by decide +kernel
theorem dX1_useNeed_52 : decode cX1_useNeed 52 = .ok (.getfield 16, 3) := by decide +kernel
theorem dX1_useNeed_55 : decode cX1_useNeed 55 = .ok (.iload_n 1, 1) := by decide +kernel
theorem dX1_useNeed_56 : decode cX1_useNeed 56 = .ok (.iaload, 1) := by decide +kernel
theorem dX1_useNeed_57 : decode cX1_useNeed 57 = .ok (.iconst 1, 1) := by decide +kernel
theorem dX1_useNeed_58 : decode cX1_useNeed 58 = .ok (.iadd, 1) := by decide +kernel
theorem dX1_useNeed_59 : decode cX1_useNeed 59 = .ok (.invokestatic 68, 3) := by decide +kernel
theorem dX1_useNeed_62 : decode cX1_useNeed 62 = .ok (.iastore, 1) := by decide +kernel
theorem dX1_useNeed_63 : decode cX1_useNeed 63 = .ok (.aload_n 0, 1) := by decide +kernel
theorem dX1_useNeed_64 : decode cX1_useNeed 64 = .ok (.getfield 13, 3) := by decide +kernel
theorem dX1_useNeed_67 : decode cX1_useNeed 67 = .ok (.iload_n 1, 1) := by decide +kernel
theorem dX1_useNeed_68 : decode cX1_useNeed 68 = .ok (.iconst 0, 1) := by decide +kernel
theorem dX1_useNeed_69 : decode cX1_useNeed 69 = .ok (.iastore, 1) := by decide +kernel
theorem dX1_useNeed_70 : decode cX1_useNeed 70 = .ok (.return_, 1) := by decide +kernel
theorem dX1_wasDry_0 : decode cX1_wasDry 0 = .ok (.aload_n 0, 1) := by decide +kernel
theorem dX1_wasDry_1 : decode cX1_wasDry 1 = .ok (.getfield 29, 3) := by decide +kernel
theorem dX1_wasDry_4 : decode cX1_wasDry 4 = .ok (.iload_n 1, 1) := by decide +kernel
theorem dX1_wasDry_5 : decode cX1_wasDry 5 = .ok (.ishr, 1) := by decide +kernel
theorem dX1_wasDry_6 : decode cX1_wasDry 6 = .ok (.iconst 1, 1) := by decide +kernel
theorem dX1_wasDry_7 : decode cX1_wasDry 7 = .ok (.iand, 1) := by decide +kernel
theorem dX1_wasDry_8 : decode cX1_wasDry 8 = .ok (.ifCond .eq 7, 3) := by decide +kernel
theorem dX1_wasDry_11 : decode cX1_wasDry 11 = .ok (.iconst 1, 1) := by decide +kernel
theorem dX1_wasDry_12 : decode cX1_wasDry 12 = .ok (.goto 4, 3) := by decide +kernel
theorem dX1_wasDry_15 : decode cX1_wasDry 15 = .ok (.iconst 0, 1) := by decide +kernel
theorem dX1_wasDry_16 : decode cX1_wasDry 16 = .ok (.ireturn, 1) := by decide +kernel
set_option maxRecDepth 20000 in
theorem ggX1_deedsOfAll_J6_bitCount_0f7a4 : GoodIn wsX1_deedsOfAll wsJ6_bitCount_0f7a4 := goodIn_r _ [6, 7, 8, 9] rfl (by decide +kernel)
set_option maxRecDepth 20000 in
theorem gX1_deedsOfAll_J6_bitCount_0f7a4 : GoodIn wsX1_deedsOfAll (va_wsS RX1 82 yJ6_bitCount_0f7a4 wsJ6_bitCount_0f7a4) := goodIn_app (goodIn_of _ (by decide +kernel)) ggX1_deedsOfAll_J6_bitCount_0f7a4
theorem dX1_deedsOfAll_0 : decode cX1_deedsOfAll 0 = .ok (.iconst 0, 1) := by decide +kernel
theorem dX1_deedsOfAll_1 : decode cX1_deedsOfAll 1 = .ok (.istore_n 1, 1) := by decide +kernel
theorem dX1_deedsOfAll_2 : decode cX1_deedsOfAll 2 = .ok (.iconst 0, 1) := by decide +kernel
theorem dX1_deedsOfAll_3 : decode cX1_deedsOfAll 3 = .ok (.istore_n 2, 1) := by decide +kernel
theorem dX1_deedsOfAll_4 : decode cX1_deedsOfAll 4 = .ok (.iload_n 2, 1) := by decide +kernel
theorem dX1_deedsOfAll_5 : decode cX1_deedsOfAll 5 = .ok (.aload_n 0, 1) := by decide +kernel
theorem dX1_deedsOfAll_6 : decode cX1_deedsOfAll 6 = .ok (.getfield 32, 3) := by decide +kernel
theorem dX1_deedsOfAll_9 : decode cX1_deedsOfAll 9 = .ok (.if_icmp .ge 21, 3) := by decide +kernel
theorem dX1_deedsOfAll_12 : decode cX1_deedsOfAll 12 = .ok (.iload_n 1, 1) := by decide +kernel
theorem dX1_deedsOfAll_13 : decode cX1_deedsOfAll 13 = .ok (.aload_n 0, 1) := by decide +kernel
theorem dX1_deedsOfAll_14 : decode cX1_deedsOfAll 14 = .ok (.getfield 38, 3) := by decide +kernel
theorem dX1_deedsOfAll_17 : decode cX1_deedsOfAll 17 = .ok (.iload_n 2, 1) := by decide +kernel
theorem dX1_deedsOfAll_18 : decode cX1_deedsOfAll 18 = .ok (.iaload, 1) := by decide +kernel
theorem dX1_deedsOfAll_19 : decode cX1_deedsOfAll 19 = .ok (.invokestatic 82, 3) := by decide +kernel
theorem dX1_deedsOfAll_22 : decode cX1_deedsOfAll 22 = .ok (.iadd, 1) := by decide +kernel
theorem dX1_deedsOfAll_23 : decode cX1_deedsOfAll 23 = .ok (.istore_n 1, 1) := by decide +kernel
theorem dX1_deedsOfAll_24 : decode cX1_deedsOfAll 24 = .ok (.iinc 2 1, 3) := by decide +kernel
theorem dX1_deedsOfAll_27 : decode cX1_deedsOfAll 27 = .ok (.goto (-23), 3) := by decide +kernel
theorem dX1_deedsOfAll_30 : decode cX1_deedsOfAll 30 = .ok (.iload_n 1, 1) := by decide +kernel
theorem dX1_deedsOfAll_31 : decode cX1_deedsOfAll 31 = .ok (.ireturn, 1) := by decide +kernel
theorem dX1_askedOfAll_0 : decode cX1_askedOfAll 0 = .ok (.iconst 0, 1) := by decide +kernel
theorem dX1_askedOfAll_1 : decode cX1_askedOfAll 1 = .ok (.istore_n 1, 1) := by decide +kernel
theorem dX1_askedOfAll_2 : decode cX1_askedOfAll 2 = .ok (.iconst 0, 1) := by decide +kernel
theorem dX1_askedOfAll_3 : decode cX1_askedOfAll 3 = .ok (.istore_n 2, 1) := by decide +kernel
theorem dX1_askedOfAll_4 : decode cX1_askedOfAll 4 = .ok (.iload_n 2, 1) := by decide +kernel
theorem dX1_askedOfAll_5 : decode cX1_askedOfAll 5 = .ok (.aload_n 0, 1) := by decide +kernel
theorem dX1_askedOfAll_6 : decode cX1_askedOfAll 6 = .ok (.getfield 32, 3) := by decide +kernel
theorem dX1_askedOfAll_9 : decode cX1_askedOfAll 9 = .ok (.if_icmp .ge 18, 3) := by decide +kernel
theorem dX1_askedOfAll_12 : decode cX1_askedOfAll 12 = .ok (.iload_n 1, 1) := by decide +kernel
theorem dX1_askedOfAll_13 : decode cX1_askedOfAll 13 = .ok (.aload_n 0, 1) := by decide +kernel
theorem dX1_askedOfAll_14 : decode cX1_askedOfAll 14 = .ok (.getfield 44, 3) := by decide +kernel
theorem dX1_askedOfAll_17 : decode cX1_askedOfAll 17 = .ok (.iload_n 2, 1) := by decide +kernel
theorem dX1_askedOfAll_18 : decode cX1_askedOfAll 18 = .ok (.iaload, 1) := by decide +kernel
theorem dX1_askedOfAll_19 : decode cX1_askedOfAll 19 = .ok (.iadd, 1) := by decide +kernel
theorem dX1_askedOfAll_20 : decode cX1_askedOfAll 20 = .ok (.istore_n 1, 1) := by decide +kernel
theorem dX1_askedOfAll_21 : decode cX1_askedOfAll 21 = .ok (.iinc 2 1, 3) := by decide +kernel
theorem dX1_askedOfAll_24 : decode cX1_askedOfAll 24 = .ok (.goto (-20), 3) := by decide +kernel
theorem dX1_askedOfAll_27 : decode cX1_askedOfAll 27 = .ok (.iload_n 1, 1) := by decide +kernel
theorem dX1_askedOfAll_28 : decode cX1_askedOfAll 28 = .ok (.ireturn, 1) := by decide +kernel
theorem dX1_sendNoMore_0 : decode cX1_sendNoMore 0 = .ok (.iconst 0, 1) := by decide +kernel
theorem dX1_sendNoMore_1 : decode cX1_sendNoMore 1 = .ok (.istore_n 2, 1) := by decide +kernel
theorem dX1_sendNoMore_2 : decode cX1_sendNoMore 2 = .ok (.iload_n 2, 1) := by decide +kernel
theorem dX1_sendNoMore_3 : decode cX1_sendNoMore 3 = .ok (.iconst 4, 1) := by decide +kernel
theorem dX1_sendNoMore_4 : decode cX1_sendNoMore 4 = .ok (.if_icmp .ge 26, 3) := by decide +kernel
theorem dX1_sendNoMore_7 : decode cX1_sendNoMore 7 = .ok (.aload_n 0, 1) := by decide +kernel
theorem dX1_sendNoMore_8 : decode cX1_sendNoMore 8 = .ok (.getfield 19, 3) := by decide +kernel
theorem dX1_sendNoMore_11 : decode cX1_sendNoMore 11 = .ok (.iload_n 2, 1) := by decide +kernel
theorem dX1_sendNoMore_12 : decode cX1_sendNoMore 12 = .ok (.iaload, 1) := by decide +kernel
theorem dX1_sendNoMore_13 : decode cX1_sendNoMore 13 = .ok (.iload_n 1, 1) := by decide +kernel
theorem dX1_sendNoMore_14 : decode cX1_sendNoMore 14 = .ok (.if_icmp .ne 10, 3) := by decide +kernel
theorem dX1_sendNoMore_17 : decode cX1_sendNoMore 17 = .ok (.aload_n 0, 1) := by decide +kernel
theorem dX1_sendNoMore_18 : decode cX1_sendNoMore 18 = .ok (.getfield 19, 3) := by decide +kernel
theorem dX1_sendNoMore_21 : decode cX1_sendNoMore 21 = .ok (.iload_n 2, 1) := by decide +kernel
theorem dX1_sendNoMore_22 : decode cX1_sendNoMore 22 = .ok (.iconst (-1), 1) := by decide +kernel
theorem dX1_sendNoMore_23 : decode cX1_sendNoMore 23 = .ok (.iastore, 1) := by decide +kernel
theorem dX1_sendNoMore_24 : decode cX1_sendNoMore 24 = .ok (.iinc 2 1, 3) := by decide +kernel
theorem dX1_sendNoMore_27 : decode cX1_sendNoMore 27 = .ok (.goto (-25), 3) := by decide +kernel
theorem dX1_sendNoMore_30 : decode cX1_sendNoMore 30 = .ok (.return_, 1) := by decide +kernel
theorem dX1_oneOfRound_0 : decode cX1_oneOfRound 0 = .ok (.iload_n 0, 1) := by decide +kernel
theorem dX1_oneOfRound_1 : decode cX1_oneOfRound 1 = .ok (.iconst 3, 1) := by decide +kernel
theorem dX1_oneOfRound_2 : decode cX1_oneOfRound 2 = .ok (.iconst 3, 1) := by decide +kernel
theorem dX1_oneOfRound_3 : decode cX1_oneOfRound 3 = .ok (.iload_n 1, 1) := by decide +kernel
theorem dX1_oneOfRound_4 : decode cX1_oneOfRound 4 = .ok (.isub, 1) := by decide +kernel
theorem dX1_oneOfRound_5 : decode cX1_oneOfRound 5 = .ok (.imul, 1) := by decide +kernel
theorem dX1_oneOfRound_6 : decode cX1_oneOfRound 6 = .ok (.ishr, 1) := by decide +kernel
theorem dX1_oneOfRound_7 : decode cX1_oneOfRound 7 = .ok (.bipush 7, 2) := by decide +kernel
theorem dX1_oneOfRound_9 : decode cX1_oneOfRound 9 = .ok (.iand, 1) := by decide +kernel
theorem dX1_oneOfRound_10 : decode cX1_oneOfRound 10 = .ok (.ireturn, 1) := by decide +kernel
set_option maxRecDepth 20000 in
theorem ggX1_isRound_X1_oneOfRound : GoodIn wsX1_isRound wsX1_oneOfRound := goodIn_r _ [4] rfl (by decide +kernel)
set_option maxRecDepth 20000 in
theorem gX1_isRound_X1_oneOfRound : GoodIn wsX1_isRound (va_wsS RX1 88 yX1_oneOfRound wsX1_oneOfRound) := goodIn_app (goodIn_of _ (by decide +kernel)) ggX1_isRound_X1_oneOfRound
set_option maxRecDepth 20000 in
theorem ggX1_isRound_X1_isThere : GoodIn wsX1_isRound wsX1_isThere := goodIn_r _ [8, 9, 10, 11, 12, 13, 14, 15, 16, 17, 18, 19, 20, 21] rfl (by decide +kernel)
set_option maxRecDepth 20000 in
theorem gX1_isRound_X1_isThere : GoodIn wsX1_isRound (wsV RX1 71 RX1 yX1_isThere wsX1_isThere) := goodIn_app (goodIn_of _ (by decide +kernel)) ggX1_isRound_X1_isThere
theorem dX1_isRound_0 : decode cX1_isRound 0 = .ok (.iconst 0, 1) := by decide +kernel
theorem dX1_isRound_1 : decode cX1_isRound 1 = .ok (.istore_n 2, 1) := by decide +kernel
theorem dX1_isRound_2 : decode cX1_isRound 2 = .ok (.iconst 0, 1) := by decide +kernel
theorem dX1_isRound_3 : decode cX1_isRound 3 = .ok (.istore_n 3, 1) := by decide +kernel
theorem dX1_isRound_4 : decode cX1_isRound 4 = .ok (.iload_n 3, 1) := by decide +kernel
theorem dX1_isRound_5 : decode cX1_isRound 5 = .ok (.iconst 4, 1) := by decide +kernel
theorem dX1_isRound_6 : decode cX1_isRound 6 = .ok (.if_icmp .ge 43, 3) := by decide +kernel
theorem dX1_isRound_9 : decode cX1_isRound 9 = .ok (.iload_n 1, 1) := by decide +kernel
theorem dX1_isRound_10 : decode cX1_isRound 10 = .ok (.iload_n 3, 1) := by decide +kernel
theorem dX1_isRound_11 : decode cX1_isRound 11 = .ok (.invokestatic 88, 3) := by decide +kernel
theorem dX1_isRound_14 : decode cX1_isRound 14 = .ok (.istore 4, 2) := by decide +kernel
theorem dX1_isRound_16 : decode cX1_isRound 16 = .ok (.aload_n 0, 1) := by decide +kernel
theorem dX1_isRound_17 : decode cX1_isRound 17 = .ok (.iload 4, 2) := by decide +kernel
theorem dX1_isRound_19 : decode cX1_isRound 19 = .ok (.invokevirtual 71, 3) := by decide +kernel
theorem dX1_isRound_22 : decode cX1_isRound 22 = .ok (.ifCond .eq 12, 3) := by decide +kernel
theorem dX1_isRound_25 : decode cX1_isRound 25 = .ok (.iload_n 2, 1) := by decide +kernel
theorem dX1_isRound_26 : decode cX1_isRound 26 = .ok (.iload 4, 2) := by decide +kernel
theorem dX1_isRound_28 : decode cX1_isRound 28 = .ok (.ishr, 1) := by decide +kernel
theorem dX1_isRound_29 : decode cX1_isRound 29 = .ok (.iconst 1, 1) := by decide +kernel
theorem dX1_isRound_30 : decode cX1_isRound 30 = .ok (.iand, 1) := by decide +kernel
theorem dX1_isRound_31 : decode cX1_isRound 31 = .ok (.ifCond .eq 5, 3) := by decide +kernel
theorem dX1_isRound_34 : decode cX1_isRound 34 = .ok (.iconst 0, 1) := by decide +kernel
theorem dX1_isRound_35 : decode cX1_isRound 35 = .ok (.ireturn, 1) := by decide +kernel
theorem dX1_isRound_36 : decode cX1_isRound 36 = .ok (.iload_n 2, 1) := by decide +kernel
theorem dX1_isRound_37 : decode cX1_isRound 37 = .ok (.iconst 1, 1) := by decide +kernel
theorem dX1_isRound_38 : decode cX1_isRound 38 = .ok (.iload 4, 2) := by decide +kernel
theorem dX1_isRound_40 : decode cX1_isRound 40 = .ok (.ishl, 1) := by decide +kernel
theorem dX1_isRound_41 : decode cX1_isRound 41 = .ok (.ior, 1) := by decide +kernel
theorem dX1_isRound_42 : decode cX1_isRound 42 = .ok (.istore_n 2, 1) := by decide +kernel
theorem dX1_isRound_43 : decode cX1_isRound 43 = .ok (.iinc 3 1, 3) := by decide +kernel
theorem dX1_isRound_46 : decode cX1_isRound 46 = .ok (.goto (-42), 3) := by decide +kernel
theorem dX1_isRound_49 : decode cX1_isRound 49 = .ok (.iconst 1, 1) := by decide +kernel
theorem dX1_isRound_50 : decode cX1_isRound 50 = .ok (.ireturn, 1) := by decide +kernel
set_option maxRecDepth 20000 in
theorem ggX1_sendRound_X1_oneOfRound : GoodIn wsX1_sendRound wsX1_oneOfRound := goodIn_r _ [5] rfl (by decide +kernel)
set_option maxRecDepth 20000 in
theorem gX1_sendRound_X1_oneOfRound : GoodIn wsX1_sendRound (va_wsS RX1 88 yX1_oneOfRound wsX1_oneOfRound) := goodIn_app (goodIn_of _ (by decide +kernel)) ggX1_sendRound_X1_oneOfRound
theorem dX1_sendRound_0 : decode cX1_sendRound 0 = .ok (.iconst 0, 1) := by decide +kernel
theorem dX1_sendRound_1 : decode cX1_sendRound 1 = .ok (.istore_n 2, 1) := by decide +kernel
theorem dX1_sendRound_2 : decode cX1_sendRound 2 = .ok (.iload_n 2, 1) := by decide +kernel
theorem dX1_sendRound_3 : decode cX1_sendRound 3 = .ok (.iconst 4, 1) := by decide +kernel
theorem dX1_sendRound_4 : decode cX1_sendRound 4 = .ok (.if_icmp .ge 20, 3) := by decide +kernel
theorem dX1_sendRound_7 : decode cX1_sendRound 7 = .ok (.aload_n 0, 1) := by decide +kernel
theorem dX1_sendRound_8 : decode cX1_sendRound 8 = .ok (.getfield 19, 3) := by decide +kernel
theorem dX1_sendRound_11 : decode cX1_sendRound 11 = .ok (.iload_n 2, 1) := by decide +kernel
theorem dX1_sendRound_12 : decode cX1_sendRound 12 = .ok (.iload_n 1, 1) := by decide +kernel
theorem dX1_sendRound_13 : decode cX1_sendRound 13 = .ok (.iload_n 2, 1) := by decide +kernel
theorem dX1_sendRound_14 : decode cX1_sendRound 14 = .ok (.invokestatic 88, 3) := by decide +kernel
theorem dX1_sendRound_17 : decode cX1_sendRound 17 = .ok (.iastore, 1) := by decide +kernel
theorem dX1_sendRound_18 : decode cX1_sendRound 18 = .ok (.iinc 2 1, 3) := by decide +kernel
theorem dX1_sendRound_21 : decode cX1_sendRound 21 = .ok (.goto (-19), 3) := by decide +kernel
theorem dX1_sendRound_24 : decode cX1_sendRound 24 = .ok (.return_, 1) := by decide +kernel
set_option maxRecDepth 20000 in
theorem ggX1_roundInTens_X1_oneOfRound : GoodIn wsX1_roundInTens wsX1_oneOfRound := goodIn_r _ [4] rfl (by decide +kernel)
set_option maxRecDepth 20000 in
theorem gX1_roundInTens_X1_oneOfRound : GoodIn wsX1_roundInTens (va_wsS RX1 88 yX1_oneOfRound wsX1_oneOfRound) := goodIn_app (goodIn_of _ (by decide +kernel)) ggX1_roundInTens_X1_oneOfRound
theorem dX1_roundInTens_0 : decode cX1_roundInTens 0 = .ok (.iconst 0, 1) := by decide +kernel
theorem dX1_roundInTens_1 : decode cX1_roundInTens 1 = .ok (.istore_n 1, 1) := by decide +kernel
theorem dX1_roundInTens_2 : decode cX1_roundInTens 2 = .ok (.iconst 3, 1) := by decide +kernel
theorem dX1_roundInTens_3 : decode cX1_roundInTens 3 = .ok (.istore_n 2, 1) := by decide +kernel
theorem dX1_roundInTens_4 : decode cX1_roundInTens 4 = .ok (.iload_n 2, 1) := by decide +kernel
theorem dX1_roundInTens_5 : decode cX1_roundInTens 5 = .ok (.ifCond .lt 20, 3) := by decide +kernel
theorem dX1_roundInTens_8 : decode cX1_roundInTens 8 = .ok (.bipush 10, 2) := by decide +kernel
theorem dX1_roundInTens_10 : decode cX1_roundInTens 10 = .ok (.iload_n 1, 1) := by decide +kernel
theorem dX1_roundInTens_11 : decode cX1_roundInTens 11 = .ok (.imul, 1) := by decide +kernel
theorem dX1_roundInTens_12 : decode cX1_roundInTens 12 = .ok (.iload_n 0, 1) := by decide +kernel
theorem dX1_roundInTens_13 : decode cX1_roundInTens 13 = .ok (.iload_n 2, 1) := by decide +kernel
theorem dX1_roundInTens_14 : decode cX1_roundInTens 14 = .ok (.invokestatic 88, 3) := by decide +kernel
theorem dX1_roundInTens_17 : decode cX1_roundInTens 17 = .ok (.iadd, 1) := by decide +kernel
theorem dX1_roundInTens_18 : decode cX1_roundInTens 18 = .ok (.istore_n 1, 1) := by decide +kernel
theorem dX1_roundInTens_19 : decode cX1_roundInTens 19 = .ok (.iinc 2 (-1), 3) := by decide +kernel
theorem dX1_roundInTens_22 : decode cX1_roundInTens 22 = .ok (.goto (-18), 3) := by decide +kernel
theorem dX1_roundInTens_25 : decode cX1_roundInTens 25 = .ok (.iload_n 1, 1) := by decide +kernel
theorem dX1_roundInTens_26 : decode cX1_roundInTens 26 = .ok (.ireturn, 1) := by decide +kernel
set_option maxRecDepth 20000 in
theorem ggX2_init_X5_init : GoodIn wsX2_init wsX5_init := goodIn_r _ [9, 10, 2, 3, 11, 12, 13, 14, 15, 16, 17, 18, 19, 20, 21, 22, 23, 24, 25] rfl (by decide +kernel)
set_option maxRecDepth 20000 in
theorem gX2_init_X5_init_n9 : GoodIn wsX2_init (wsX5_init) := ggX2_init_X5_init
theorem dX2_init_0 : decode cX2_init 0 = .ok (.aload_n 0, 1) := by decide +kernel
theorem dX2_init_1 : decode cX2_init 1 = .ok (.invokespecial 1, 3) := by decide +kernel
theorem dX2_init_4 : decode cX2_init 4 = .ok (.aload_n 0, 1) := by decide +kernel
theorem dX2_init_5 : decode cX2_init 5 = .ok (.new 7, 3) := by decide +kernel
theorem dX2_init_8 : decode cX2_init 8 = .ok (.dup, 1) := by decide +kernel
theorem dX2_init_9 : decode cX2_init 9 = .ok (.invokespecial 9, 3) := by decide +kernel
theorem dX2_init_12 : decode cX2_init 12 = .ok (.putfield 10, 3) := by decide +kernel
theorem dX2_init_15 : decode cX2_init 15 = .ok (.return_, 1) := by decide +kernel
set_option maxRecDepth 20000 in
theorem ggX2_readInto_X5_scan : GoodIn wsX2_readInto wsX5_scan := goodIn_r _ [6, 7, 8, 9, 10, 11, 12, 13, 14, 15, 16, 17, 18, 5, 19, 20, 21, 22, 23, 24, 25, 26, 27, 28, 29, 30, 31, 32, 33, 34, 154, 155, 156, 157, 158, 159, 160, 161, 162] rfl (by decide +kernel)
set_option maxRecDepth 20000 in
theorem gX2_readInto_X5_scan : GoodIn wsX2_readInto (wsV RX2 16 RX5 yX5_scan wsX5_scan) := goodIn_app (goodIn_of _ (by decide +kernel)) ggX2_readInto_X5_scan
set_option maxRecDepth 20000 in
theorem ggX2_readInto_X2_readItem : GoodIn wsX2_readInto wsX2_readItem := goodIn_r _ [39, 1, 40, 41, 42, 43, 44, 45, 46, 47, 48, 5, 49, 24, 15, 16, 8, 25, 50, 51, 52, 53, 54, 55, 56, 57, 58, 59, 60, 61, 62, 63, 64, 65, 66, 67, 68, 69, 70, 71, 72, 73, 74, 75, 76, 77, 78, 79, 80, 81, 82, 83, 84, 85, 86, 87, 88, 89, 90, 91, 92, 93, 94, 95, 96, 97, 98, 99, 100, 101, 38, 102, 103, 104, 105, 106, 107, 108, 109, 110, 111, 112, 113, 114, 115, 116, 117, 118, 14, 119, 120, 121, 122, 123, 124, 125, 126, 127, 128, 129, 130, 131, 132, 133, 134, 135, 136, 137, 26, 138, 139, 140, 141, 142, 143, 144, 145, 146, 147, 148, 153, 163, 164, 165, 166, 167, 168, 169, 170, 171, 172, 173, 174, 156, 157, 158, 159, 160, 161, 162] rfl (by decide +kernel)
set_option maxRecDepth 20000 in
theorem gX2_readInto_X2_readItem : GoodIn wsX2_readInto (wsV RX2 22 RX2 yX2_readItem wsX2_readItem) := goodIn_app (goodIn_of _ (by decide +kernel)) ggX2_readInto_X2_readItem
set_option maxRecDepth 20000 in
theorem ggX2_readInto_X5_isAt : GoodIn wsX2_readInto wsX5_isAt := goodIn_r _ [133, 24, 15, 156, 157, 158, 159, 160, 161, 162] rfl (by decide +kernel)
set_option maxRecDepth 20000 in
theorem gX2_readInto_X5_isAt : GoodIn wsX2_readInto (wsV RX2 26 RX5 yX5_isAt wsX5_isAt) := goodIn_app (goodIn_of _ (by decide +kernel)) ggX2_readInto_X5_isAt
set_option maxRecDepth 20000 in
theorem ggX2_readInto_X5_goOn : GoodIn wsX2_readInto wsX5_goOn := goodIn_r _ [118, 15, 14, 156, 157, 158, 159, 160, 161, 162] rfl (by decide +kernel)
set_option maxRecDepth 20000 in
theorem gX2_readInto_X5_goOn : GoodIn wsX2_readInto (wsV RX2 30 RX5 yX5_goOn wsX5_goOn) := goodIn_app (goodIn_of _ (by decide +kernel)) ggX2_readInto_X5_goOn
set_option maxRecDepth 20000 in
theorem ggX2_readInto_X5_place : GoodIn wsX2_readInto wsX5_place := goodIn_r _ [152, 25, 15, 156, 157, 158, 159, 160, 161, 162] rfl (by decide +kernel)
set_option maxRecDepth 20000 in
theorem gX2_readInto_X5_place : GoodIn wsX2_readInto (wsV RX2 33 RX5 yX5_place wsX5_place) := goodIn_app (goodIn_of _ (by decide +kernel)) ggX2_readInto_X5_place
theorem dX2_readInto_0 : decode cX2_readInto 0 = .ok (.aload_n 0, 1) := by decide +kernel
theorem dX2_readInto_1 : decode cX2_readInto 1 = .ok (.getfield 10, 3) := by decide +kernel
theorem dX2_readInto_4 : decode cX2_readInto 4 = .ok (.aload_n 2, 1) := by decide +kernel
theorem dX2_readInto_5 : decode cX2_readInto 5 = .ok (.invokevirtual 16, 3) := by decide +kernel
theorem dX2_readInto_8 : decode cX2_readInto 8 = .ok (.iconst 1, 1) := by decide +kernel
theorem dX2_readInto_9 : decode cX2_readInto 9 = .ok (.istore_n 3, 1) := by decide +kernel
theorem dX2_readInto_10 : decode cX2_readInto 10 = .ok (.iload_n 3, 1) := by decide +kernel
theorem dX2_readInto_11 : decode cX2_readInto 11 = .ok (.bipush 120, 2) := by decide +kernel
theorem dX2_readInto_13 : decode cX2_readInto 13 = .ok (.if_icmp .gt 51, 3) := by decide +kernel
theorem dX2_readInto_16 : decode cX2_readInto 16 = .ok (.aload_n 0, 1) := by decide +kernel
theorem dX2_readInto_17 : decode cX2_readInto 17 = .ok (.aload_n 1, 1) := by decide +kernel
theorem dX2_readInto_18 : decode cX2_readInto 18 = .ok (.invokevirtual 22, 3) := by decide +kernel
theorem dX2_readInto_21 : decode cX2_readInto 21 = .ok (.ifCond .eq 43, 3) := by decide +kernel
theorem dX2_readInto_24 : decode cX2_readInto 24 = .ok (.aload_n 0, 1) := by decide +kernel
theorem dX2_readInto_25 : decode cX2_readInto 25 = .ok (.getfield 10, 3) := by decide +kernel
theorem dX2_readInto_28 : decode cX2_readInto 28 = .ok (.iconst 5, 1) := by decide +kernel
theorem dX2_readInto_29 : decode cX2_readInto 29 = .ok (.invokevirtual 26, 3) := by decide +kernel
theorem dX2_readInto_32 : decode cX2_readInto 32 = .ok (.ifCond .eq 5, 3) := by decide +kernel
theorem dX2_readInto_35 : decode cX2_readInto 35 = .ok (.iload_n 3, 1) := by decide +kernel
theorem dX2_readInto_36 : decode cX2_readInto 36 = .ok (.ireturn, 1) := by decide +kernel
theorem dX2_readInto_37 : decode cX2_readInto 37 = .ok (.aload_n 0, 1) := by decide +kernel
theorem dX2_readInto_38 : decode cX2_readInto 38 = .ok (.getfield 10, 3) := by decide +kernel
theorem dX2_readInto_41 : decode cX2_readInto 41 = .ok (.iconst 3, 1) := by decide +kernel
theorem dX2_readInto_42 : decode cX2_readInto 42 = .ok (.invokevirtual 26, 3) := by decide +kernel
theorem dX2_readInto_45 : decode cX2_readInto 45 = .ok (.ifCond .ne 6, 3) := by decide +kernel
theorem dX2_readInto_48 : decode cX2_readInto 48 = .ok (.goto 16, 3) := by decide +kernel
theorem dX2_readInto_51 : decode cX2_readInto 51 = .ok (.aload_n 0, 1) := by decide +kernel
theorem dX2_readInto_52 : decode cX2_readInto 52 = .ok (.getfield 10, 3) := by decide +kernel
theorem dX2_readInto_55 : decode cX2_readInto 55 = .ok (.invokevirtual 30, 3) := by decide +kernel
theorem dX2_readInto_58 : decode cX2_readInto 58 = .ok (.iinc 3 1, 3) := by decide +kernel
theorem dX2_readInto_61 : decode cX2_readInto 61 = .ok (.goto (-51), 3) := by decide +kernel
theorem dX2_readInto_64 : decode cX2_readInto 64 = .ok (.iconst (-1), 1) := by decide +kernel
theorem dX2_readInto_65 : decode cX2_readInto 65 = .ok (.aload_n 0, 1) := by decide +kernel
theorem dX2_readInto_66 : decode cX2_readInto 66 = .ok (.getfield 10, 3) := by decide +kernel
theorem dX2_readInto_69 : decode cX2_readInto 69 = .ok (.invokevirtual 33, 3) := by decide +kernel
theorem dX2_readInto_72 : decode cX2_readInto 72 = .ok (.isub, 1) := by decide +kernel
theorem dX2_readInto_73 : decode cX2_readInto 73 = .ok (.ireturn, 1) := by decide +kernel
set_option maxRecDepth 20000 in
theorem ggX2_readItem_X0_nameOf : GoodIn wsX2_readItem wsX0_nameOf := goodIn_r _ [7] rfl (by decide +kernel)
set_option maxRecDepth 20000 in
theorem gX2_readItem_X0_nameOf : GoodIn wsX2_readItem (va_wsS RX2 39 yX0_nameOf wsX0_nameOf) := goodIn_app (goodIn_of _ (by decide +kernel)) ggX2_readItem_X0_nameOf
set_option maxRecDepth 20000 in
theorem ggX2_readItem_X5_isAtWord : GoodIn wsX2_readItem wsX5_isAtWord := goodIn_r _ [12, 13, 14, 15, 16, 17, 18, 19, 20, 21, 22, 23, 24, 25, 26, 27, 28, 29, 30, 31, 32, 33, 34, 35, 36, 37, 38, 39, 40, 41, 42, 43, 44, 45, 46, 47, 48, 49, 50, 51, 52, 53, 54, 55, 56, 57, 58, 59, 60, 61, 62, 63, 64, 65, 66, 133, 134, 135, 136, 137, 138, 139] rfl (by decide +kernel)
set_option maxRecDepth 20000 in
theorem gX2_readItem_X5_isAtWord : GoodIn wsX2_readItem (wsV RX2 43 RX5 yX5_isAtWord wsX5_isAtWord) := goodIn_app (goodIn_of _ (by decide +kernel)) ggX2_readItem_X5_isAtWord
set_option maxRecDepth 20000 in
theorem ggX2_readItem_X2_readPerson : GoodIn wsX2_readItem wsX2_readPerson := goodIn_r _ [71, 1, 72, 73, 74, 75, 76, 77, 78, 79, 80, 81, 82, 83, 84, 85, 86, 11, 87, 14, 88, 89, 90, 91, 92, 93, 9, 10, 12, 13, 15, 16, 17, 18, 19, 20, 21, 22, 23, 24, 25, 26, 27, 28, 29, 30, 31, 32, 33, 34, 35, 36, 37, 38, 39, 40, 41, 42, 43, 44, 45, 46, 47, 48, 49, 50, 51, 52, 53, 54, 55, 56, 57, 58, 59, 60, 61, 62, 63, 64, 65, 66, 94, 95, 96, 97, 70, 98, 99, 100, 101, 102, 103, 104, 105, 106, 107, 108, 109, 110, 111, 112, 120, 121, 122, 123, 124, 125, 126, 127, 128, 129, 130, 131, 132, 133, 134, 135, 136, 137, 138, 139] rfl (by decide +kernel)
set_option maxRecDepth 20000 in
theorem gX2_readItem_X2_readPerson : GoodIn wsX2_readItem (wsV RX2 47 RX2 yX2_readPerson wsX2_readPerson) := goodIn_app (goodIn_of _ (by decide +kernel)) ggX2_readItem_X2_readPerson
set_option maxRecDepth 20000 in
theorem ggX2_readItem_X5_takesWord : GoodIn wsX2_readItem wsX5_takesWord := goodIn_r _ [92, 93, 9, 10, 11, 12, 13, 14, 15, 16, 17, 18, 19, 20, 21, 22, 23, 24, 25, 26, 27, 28, 29, 30, 31, 32, 33, 34, 35, 36, 37, 38, 39, 40, 41, 42, 43, 44, 45, 46, 47, 48, 49, 50, 51, 52, 53, 54, 55, 56, 57, 58, 59, 60, 61, 62, 63, 64, 65, 66, 94, 85, 86, 87, 88, 133, 134, 135, 136, 137, 138, 139] rfl (by decide +kernel)
set_option maxRecDepth 20000 in
theorem gX2_readItem_X5_takesWord : GoodIn wsX2_readItem (wsV RX2 53 RX5 yX5_takesWord wsX5_takesWord) := goodIn_app (goodIn_of _ (by decide +kernel)) ggX2_readItem_X5_takesWord
set_option maxRecDepth 20000 in
theorem ggX2_readItem_X2_readFarm : GoodIn wsX2_readItem wsX2_readFarm := goodIn_r _ [116, 1, 117, 118, 119, 73, 104, 105, 106, 11, 107, 13, 14, 108, 94, 85, 86, 87, 88, 89, 90, 91, 92, 93, 9, 10, 12, 15, 16, 17, 18, 19, 20, 21, 22, 23, 24, 25, 26, 27, 28, 29, 30, 31, 32, 33, 34, 35, 36, 37, 38, 39, 40, 41, 42, 43, 44, 45, 46, 47, 48, 49, 50, 51, 52, 53, 54, 55, 56, 57, 58, 59, 60, 61, 62, 63, 64, 65, 66, 109, 110, 111, 70, 112, 120, 121, 122, 123, 124, 125, 126, 127, 128, 129, 130, 131, 132, 133, 134, 135, 136, 137, 138, 139] rfl (by decide +kernel)
set_option maxRecDepth 20000 in
theorem gX2_readItem_X2_readFarm : GoodIn wsX2_readItem (wsV RX2 56 RX2 yX2_readFarm wsX2_readFarm) := goodIn_app (goodIn_of _ (by decide +kernel)) ggX2_readItem_X2_readFarm
set_option maxRecDepth 20000 in
theorem ggX2_readItem_X2_readNumber : GoodIn wsX2_readItem wsX2_readNumber := goodIn_r _ [112, 1, 104, 105, 106, 11, 107, 13, 14, 108, 94, 85, 86, 87, 88, 120, 133, 134, 135, 136, 137, 138, 139] rfl (by decide +kernel)
set_option maxRecDepth 20000 in
theorem gX2_readItem_X2_readNumber : GoodIn wsX2_readItem (wsV RX2 70 RX2 yX2_readNumber wsX2_readNumber) := goodIn_app (goodIn_of _ (by decide +kernel)) ggX2_readItem_X2_readNumber
theorem dX2_readItem_0 : decode cX2_readItem 0 = .ok (.iconst 0, 1) := by decide +kernel
theorem dX2_readItem_1 : decode cX2_readItem 1 = .ok (.istore_n 2, 1) := by decide +kernel
theorem dX2_readItem_2 : decode cX2_readItem 2 = .ok (.iload_n 2, 1) := by decide +kernel
theorem dX2_readItem_3 : decode cX2_readItem 3 = .ok (.bipush 6, 2) := by decide +kernel
theorem dX2_readItem_5 : decode cX2_readItem 5 = .ok (.if_icmp .ge 30, 3) := by decide +kernel
theorem dX2_readItem_8 : decode cX2_readItem 8 = .ok (.aload_n 0, 1) := by decide +kernel
theorem dX2_readItem_9 : decode cX2_readItem 9 = .ok (.getfield 10, 3) := by decide +kernel
theorem dX2_readItem_12 : decode cX2_readItem 12 = .ok (.iload_n 2, 1) := by decide +kernel
theorem dX2_readItem_13 : decode cX2_readItem 13 = .ok (.invokestatic 39, 3) := by decide +kernel
theorem dX2_readItem_16 : decode cX2_readItem 16 = .ok (.invokevirtual 43, 3) := by decide +kernel
theorem dX2_readItem_19 : decode cX2_readItem 19 = .ok (.ifCond .eq 10, 3) := by decide +kernel
theorem dX2_readItem_22 : decode cX2_readItem 22 = .ok (.aload_n 0, 1) := by decide +kernel
theorem dX2_readItem_23 : decode cX2_readItem 23 = .ok (.aload_n 1, 1) := by decide +kernel
theorem dX2_readItem_24 : decode cX2_readItem 24 = .ok (.iload_n 2, 1) := by decide +kernel
theorem dX2_readItem_25 : decode cX2_readItem 25 = .ok (.invokevirtual 47, 3) := by decide +kernel
theorem dX2_readItem_28 : decode cX2_readItem 28 = .ok (.ireturn, 1) := by decide +kernel
theorem dX2_readItem_29 : decode cX2_readItem 29 = .ok (.iinc 2 1, 3) := by decide +kernel
theorem dX2_readItem_32 : decode cX2_readItem 32 = .ok (.goto (-30), 3) := by decide +kernel
theorem dX2_readItem_35 : decode cX2_readItem 35 = .ok (.aload_n 0, 1) := by decide +kernel
theorem dX2_readItem_36 : decode cX2_readItem 36 = .ok (.getfield 10, 3) := by decide +kernel
theorem dX2_readItem_39 : decode cX2_readItem 39 = .ok (.ldc 51, 2) := by decide +kernel
theorem dX2_readItem_41 : decode cX2_readItem 41 = .ok (.invokevirtual 53, 3) := by decide +kernel
theorem dX2_readItem_44 : decode cX2_readItem 44 = .ok (.ifCond .eq 9, 3) := by decide +kernel
theorem dX2_readItem_47 : decode cX2_readItem 47 = .ok (.aload_n 0, 1) := by decide +kernel
theorem dX2_readItem_48 : decode cX2_readItem 48 = .ok (.aload_n 1, 1) := by decide +kernel
theorem dX2_readItem_49 : decode cX2_readItem 49 = .ok (.invokevirtual 56, 3) := by decide +kernel
theorem dX2_readItem_52 : decode cX2_readItem 52 = .ok (.ireturn, 1) := by decide +kernel
theorem dX2_readItem_53 : decode cX2_readItem 53 = .ok (.aload_n 0, 1) := by decide +kernel
theorem dX2_readItem_54 : decode cX2_readItem 54 = .ok (.getfield 10, 3) := by decide +kernel
theorem dX2_readItem_57 : decode cX2_readItem 57 = .ok (.ldc 59, 2) := by decide +kernel
theorem dX2_readItem_59 : decode cX2_readItem 59 = .ok (.invokevirtual 53, 3) := by decide +kernel
theorem dX2_readItem_62 : decode cX2_readItem 62 = .ok (.ifCond .eq 18, 3) := by decide +kernel
theorem dX2_readItem_65 : decode cX2_readItem 65 = .ok (.aload_n 0, 1) := by decide +kernel
theorem dX2_readItem_66 : decode cX2_readItem 66 = .ok (.aload_n 1, 1) := by decide +kernel
theorem dX2_readItem_67 : decode cX2_readItem 67 = .ok (.getfield 61, 3) := by decide +kernel
theorem dX2_readItem_70 : decode cX2_readItem 70 = .ok (.iconst 0, 1) := by decide +kernel
theorem dX2_readItem_71 : decode cX2_readItem 71 = .ok (.getstatic 67, 3) := by decide +kernel
theorem dX2_readItem_74 : decode cX2_readItem 74 = .ok (.iconst 0, 1) := by decide +kernel
theorem dX2_readItem_75 : decode cX2_readItem 75 = .ok (.iaload, 1) := by decide +kernel
theorem dX2_readItem_76 : decode cX2_readItem 76 = .ok (.invokevirtual 70, 3) := by decide +kernel
theorem dX2_readItem_79 : decode cX2_readItem 79 = .ok (.ireturn, 1) := by decide +kernel
theorem dX2_readItem_80 : decode cX2_readItem 80 = .ok (.aload_n 0, 1) := by decide +kernel
theorem dX2_readItem_81 : decode cX2_readItem 81 = .ok (.getfield 10, 3) := by decide +kernel
theorem dX2_readItem_84 : decode cX2_readItem 84 = .ok (.ldc 74, 2) := by decide +kernel
theorem dX2_readItem_86 : decode cX2_readItem 86 = .ok (.invokevirtual 53, 3) := by decide +kernel
theorem dX2_readItem_89 : decode cX2_readItem 89 = .ok (.ifCond .eq 18, 3) := by decide +kernel
theorem dX2_readItem_92 : decode cX2_readItem 92 = .ok (.aload_n 0, 1) := by decide +kernel
theorem dX2_readItem_93 : decode cX2_readItem 93 = .ok (.aload_n 1, 1) := by decide +kernel
theorem dX2_readItem_94 : decode cX2_readItem 94 = .ok (.getfield 61, 3) := by decide +kernel
theorem dX2_readItem_97 : decode cX2_readItem 97 = .ok (.iconst 1, 1) := by decide +kernel
theorem dX2_readItem_98 : decode cX2_readItem 98 = .ok (.getstatic 67, 3) := by decide +kernel
theorem dX2_readItem_101 : decode cX2_readItem 101 = .ok (.iconst 1, 1) := by decide +kernel
theorem dX2_readItem_102 : decode cX2_readItem 102 = .ok (.iaload, 1) := by decide +kernel
theorem dX2_readItem_103 : decode cX2_readItem 103 = .ok (.invokevirtual 70, 3) := by decide +kernel
theorem dX2_readItem_106 : decode cX2_readItem 106 = .ok (.ireturn, 1) := by decide +kernel
theorem dX2_readItem_107 : decode cX2_readItem 107 = .ok (.iconst 0, 1) := by decide +kernel
theorem dX2_readItem_108 : decode cX2_readItem 108 = .ok (.ireturn, 1) := by decide +kernel
set_option maxRecDepth 20000 in
theorem ggX2_readNumber_X5_takeNumber : GoodIn wsX2_readNumber wsX5_takeNumber := goodIn_r _ [6, 7, 8, 9, 10, 11, 12, 5, 13, 14, 16, 17, 18, 19, 20, 21, 22] rfl (by decide +kernel)
set_option maxRecDepth 20000 in
theorem gX2_readNumber_X5_takeNumber : GoodIn wsX2_readNumber (wsV RX2 76 RX5 yX5_takeNumber wsX5_takeNumber) := goodIn_app (goodIn_of _ (by decide +kernel)) ggX2_readNumber_X5_takeNumber
theorem dX2_readNumber_0 : decode cX2_readNumber 0 = .ok (.aload_n 0, 1) := by decide +kernel
theorem dX2_readNumber_1 : decode cX2_readNumber 1 = .ok (.getfield 10, 3) := by decide +kernel
theorem dX2_readNumber_4 : decode cX2_readNumber 4 = .ok (.iload_n 3, 1) := by decide +kernel
theorem dX2_readNumber_5 : decode cX2_readNumber 5 = .ok (.invokevirtual 76, 3) := by decide +kernel
theorem dX2_readNumber_8 : decode cX2_readNumber 8 = .ok (.istore 4, 2) := by decide +kernel
theorem dX2_readNumber_10 : decode cX2_readNumber 10 = .ok (.iload 4, 2) := by decide +kernel
theorem dX2_readNumber_12 : decode cX2_readNumber 12 = .ok (.ifCond .ge 5, 3) := by decide +kernel
theorem dX2_readNumber_15 : decode cX2_readNumber 15 = .ok (.iconst 0, 1) := by decide +kernel
theorem dX2_readNumber_16 : decode cX2_readNumber 16 = .ok (.ireturn, 1) := by decide +kernel
theorem dX2_readNumber_17 : decode cX2_readNumber 17 = .ok (.aload_n 1, 1) := by decide +kernel
theorem dX2_readNumber_18 : decode cX2_readNumber 18 = .ok (.iload_n 2, 1) := by decide +kernel
theorem dX2_readNumber_19 : decode cX2_readNumber 19 = .ok (.iload 4, 2) := by decide +kernel
theorem dX2_readNumber_21 : decode cX2_readNumber 21 = .ok (.iastore, 1) := by decide +kernel
theorem dX2_readNumber_22 : decode cX2_readNumber 22 = .ok (.iconst 1, 1) := by decide +kernel
theorem dX2_readNumber_23 : decode cX2_readNumber 23 = .ok (.ireturn, 1) := by decide +kernel
set_option maxRecDepth 20000 in
theorem ggX2_readPerson_X1_addPerson : GoodIn wsX2_readPerson wsX1_addPerson := goodIn_r _ [8, 9, 10, 11, 12, 13, 103, 104, 105, 106, 107, 108, 109, 110, 111, 112, 113, 114] rfl (by decide +kernel)
set_option maxRecDepth 20000 in
theorem gX2_readPerson_X1_addPerson : GoodIn wsX2_readPerson (wsV RX2 80 RX1 yX1_addPerson wsX1_addPerson) := goodIn_app (goodIn_of _ (by decide +kernel)) ggX2_readPerson_X1_addPerson
set_option maxRecDepth 20000 in
theorem ggX2_readPerson_X5_goOn : GoodIn wsX2_readPerson wsX5_goOn := goodIn_r _ [18, 19, 20, 115, 116, 117, 118, 119, 120, 121] rfl (by decide +kernel)
set_option maxRecDepth 20000 in
theorem gX2_readPerson_X5_goOn : GoodIn wsX2_readPerson (wsV RX2 30 RX5 yX5_goOn wsX5_goOn) := goodIn_app (goodIn_of _ (by decide +kernel)) ggX2_readPerson_X5_goOn
set_option maxRecDepth 20000 in
theorem ggX2_readPerson_X5_takesWord : GoodIn wsX2_readPerson wsX5_takesWord := goodIn_r _ [24, 25, 26, 27, 17, 28, 29, 19, 30, 31, 32, 33, 34, 35, 36, 37, 38, 39, 40, 41, 42, 43, 44, 45, 46, 47, 48, 49, 50, 51, 52, 53, 54, 55, 56, 57, 58, 59, 60, 61, 62, 63, 64, 65, 66, 67, 68, 69, 70, 71, 72, 73, 74, 75, 76, 77, 78, 79, 80, 81, 82, 15, 16, 18, 20, 115, 116, 117, 118, 119, 120, 121] rfl (by decide +kernel)
set_option maxRecDepth 20000 in
theorem gX2_readPerson_X5_takesWord : GoodIn wsX2_readPerson (wsV RX2 53 RX5 yX5_takesWord wsX5_takesWord) := goodIn_app (goodIn_of _ (by decide +kernel)) ggX2_readPerson_X5_takesWord
set_option maxRecDepth 20000 in
theorem ggX2_readPerson_X2_readDeeds : GoodIn wsX2_readPerson wsX2_readDeeds := goodIn_r _ [87, 1, 88, 89, 90, 91, 17, 92, 29, 19, 93, 94, 95, 96, 97, 82, 15, 16, 18, 20, 102, 103, 104, 105, 106, 107, 108, 109, 110, 111, 112, 113, 114, 115, 116, 117, 118, 119, 120, 121] rfl (by decide +kernel)
set_option maxRecDepth 20000 in
theorem gX2_readPerson_X2_readDeeds : GoodIn wsX2_readPerson (wsV RX2 85 RX2 yX2_readDeeds wsX2_readDeeds) := goodIn_app (goodIn_of _ (by decide +kernel)) ggX2_readPerson_X2_readDeeds
set_option maxRecDepth 20000 in
theorem ggX2_readPerson_X2_readNumber : GoodIn wsX2_readPerson wsX2_readNumber := goodIn_r _ [101, 1, 93, 94, 95, 17, 96, 29, 19, 97, 82, 15, 16, 18, 20, 102, 115, 116, 117, 118, 119, 120, 121] rfl (by decide +kernel)
set_option maxRecDepth 20000 in
theorem gX2_readPerson_X2_readNumber : GoodIn wsX2_readPerson (wsV RX2 70 RX2 yX2_readNumber wsX2_readNumber) := goodIn_app (goodIn_of _ (by decide +kernel)) ggX2_readPerson_X2_readNumber
theorem dX2_readPerson_0 : decode cX2_readPerson 0 = .ok (.aload_n 1, 1) := by decide +kernel
theorem dX2_readPerson_1 : decode cX2_readPerson 1 = .ok (.iload_n 2, 1) := by decide +kernel
theorem dX2_readPerson_2 : decode cX2_readPerson 2 = .ok (.invokevirtual 80, 3) := by decide +kernel
theorem dX2_readPerson_5 : decode cX2_readPerson 5 = .ok (.istore_n 3, 1) := by decide +kernel
theorem dX2_readPerson_6 : decode cX2_readPerson 6 = .ok (.iload_n 3, 1) := by decide +kernel
theorem dX2_readPerson_7 : decode cX2_readPerson 7 = .ok (.ifCond .ge 5, 3) := by decide +kernel
theorem dX2_readPerson_10 : decode cX2_readPerson 10 = .ok (.iconst 0, 1) := by decide +kernel
theorem dX2_readPerson_11 : decode cX2_readPerson 11 = .ok (.ireturn, 1) := by decide +kernel
theorem dX2_readPerson_12 : decode cX2_readPerson 12 = .ok (.aload_n 0, 1) := by decide +kernel
theorem dX2_readPerson_13 : decode cX2_readPerson 13 = .ok (.getfield 10, 3) := by decide +kernel
theorem dX2_readPerson_16 : decode cX2_readPerson 16 = .ok (.invokevirtual 30, 3) := by decide +kernel
theorem dX2_readPerson_19 : decode cX2_readPerson 19 = .ok (.aload_n 0, 1) := by decide +kernel
theorem dX2_readPerson_20 : decode cX2_readPerson 20 = .ok (.getfield 10, 3) := by decide +kernel
theorem dX2_readPerson_23 : decode cX2_readPerson 23 = .ok (.ldc 83, 2) := by decide +kernel
theorem dX2_readPerson_25 : decode cX2_readPerson 25 = .ok (.invokevirtual 53, 3) := by decide +kernel
theorem dX2_readPerson_28 : decode cX2_readPerson 28 = .ok (.ifCond .eq 14, 3) := by decide +kernel
theorem dX2_readPerson_31 : decode cX2_readPerson 31 = .ok (.aload_n 0, 1) := by decide +kernel
theorem dX2_readPerson_32 : decode cX2_readPerson 32 = .ok (.aload_n 1, 1) := by decide +kernel
theorem dX2_readPerson_33 : decode cX2_readPerson 33 = .ok (.iload_n 3, 1) := by decide +kernel
theorem dX2_readPerson_34 : decode cX2_readPerson 34 = .ok (.invokevirtual 85, 3) := by decide +kernel
theorem dX2_readPerson_37 : decode cX2_readPerson 37 = .ok (.ifCond .ne 5, 3) := by decide +kernel
theorem dX2_readPerson_40 : decode cX2_readPerson 40 = .ok (.iconst 0, 1) := by decide +kernel
theorem dX2_readPerson_41 : decode cX2_readPerson 41 = .ok (.ireturn, 1) := by decide +kernel
theorem dX2_readPerson_42 : decode cX2_readPerson 42 = .ok (.aload_n 0, 1) := by decide +kernel
theorem dX2_readPerson_43 : decode cX2_readPerson 43 = .ok (.getfield 10, 3) := by decide +kernel
theorem dX2_readPerson_46 : decode cX2_readPerson 46 = .ok (.ldc 88, 2) := by decide +kernel
theorem dX2_readPerson_48 : decode cX2_readPerson 48 = .ok (.invokevirtual 53, 3) := by decide +kernel
theorem dX2_readPerson_51 : decode cX2_readPerson 51 = .ok (.ifCond .eq 21, 3) := by decide +kernel
theorem dX2_readPerson_54 : decode cX2_readPerson 54 = .ok (.aload_n 0, 1) := by decide +kernel
theorem dX2_readPerson_55 : decode cX2_readPerson 55 = .ok (.aload_n 1, 1) := by decide +kernel
theorem dX2_readPerson_56 : decode cX2_readPerson 56 = .ok (.getfield 90, 3) := by decide +kernel
theorem dX2_readPerson_59 : decode cX2_readPerson 59 = .ok (.iload_n 3, 1) := by decide +kernel
theorem dX2_readPerson_60 : decode cX2_readPerson 60 = .ok (.aload_n 1, 1) := by decide +kernel
theorem dX2_readPerson_61 : decode cX2_readPerson 61 = .ok (.getfield 93, 3) := by decide +kernel
theorem dX2_readPerson_64 : decode cX2_readPerson 64 = .ok (.iconst 1, 1) := by decide +kernel
theorem dX2_readPerson_65 : decode cX2_readPerson 65 = .ok (.isub, 1) := by decide +kernel
theorem dX2_readPerson_66 : decode cX2_readPerson 66 = .ok (.invokevirtual 70, 3) := by decide +kernel
theorem dX2_readPerson_69 : decode cX2_readPerson 69 = .ok (.ifCond .eq 7, 3) := by decide +kernel
theorem dX2_readPerson_72 : decode cX2_readPerson 72 = .ok (.iconst 1, 1) := by decide +kernel
theorem dX2_readPerson_73 : decode cX2_readPerson 73 = .ok (.goto 4, 3) := by decide +kernel
theorem dX2_readPerson_76 : decode cX2_readPerson 76 = .ok (.iconst 0, 1) := by decide +kernel
theorem dX2_readPerson_77 : decode cX2_readPerson 77 = .ok (.ireturn, 1) := by decide +kernel
set_option maxRecDepth 20000 in
theorem ggX2_readDeeds_X5_isAt : GoodIn wsX2_readDeeds wsX5_isAt := goodIn_r _ [7, 8, 9, 33, 34, 35, 36, 37, 38, 39] rfl (by decide +kernel)
set_option maxRecDepth 20000 in
theorem gX2_readDeeds_X5_isAt : GoodIn wsX2_readDeeds (wsV RX2 26 RX5 yX5_isAt wsX5_isAt) := goodIn_app (goodIn_of _ (by decide +kernel)) ggX2_readDeeds_X5_isAt
set_option maxRecDepth 20000 in
theorem ggX2_readDeeds_X5_takeNumber : GoodIn wsX2_readDeeds wsX5_takeNumber := goodIn_r _ [13, 8, 9, 14, 15, 16, 17, 6, 18, 19, 33, 34, 35, 36, 37, 38, 39] rfl (by decide +kernel)
set_option maxRecDepth 20000 in
theorem gX2_readDeeds_X5_takeNumber : GoodIn wsX2_readDeeds (wsV RX2 76 RX5 yX5_takeNumber wsX5_takeNumber) := goodIn_app (goodIn_of _ (by decide +kernel)) ggX2_readDeeds_X5_takeNumber
theorem dX2_readDeeds_0 : decode cX2_readDeeds 0 = .ok (.iconst 0, 1) := by decide +kernel
theorem dX2_readDeeds_1 : decode cX2_readDeeds 1 = .ok (.istore_n 3, 1) := by decide +kernel
theorem dX2_readDeeds_2 : decode cX2_readDeeds 2 = .ok (.iload_n 3, 1) := by decide +kernel
theorem dX2_readDeeds_3 : decode cX2_readDeeds 3 = .ok (.iconst 4, 1) := by decide +kernel
theorem dX2_readDeeds_4 : decode cX2_readDeeds 4 = .ok (.if_icmp .ge 57, 3) := by decide +kernel
theorem dX2_readDeeds_7 : decode cX2_readDeeds 7 = .ok (.iload_n 3, 1) := by decide +kernel
theorem dX2_readDeeds_8 : decode cX2_readDeeds 8 = .ok (.ifCond .le 16, 3) := by decide +kernel
theorem dX2_readDeeds_11 : decode cX2_readDeeds 11 = .ok (.aload_n 0, 1) := by decide +kernel
theorem dX2_readDeeds_12 : decode cX2_readDeeds 12 = .ok (.getfield 10, 3) := by decide +kernel
theorem dX2_readDeeds_15 : decode cX2_readDeeds 15 = .ok (.iconst 2, 1) := by decide +kernel
theorem dX2_readDeeds_16 : decode cX2_readDeeds 16 = .ok (.invokevirtual 26, 3) := by decide +kernel
theorem dX2_readDeeds_19 : decode cX2_readDeeds 19 = .ok (.ifCond .ne 5, 3) := by decide +kernel
theorem dX2_readDeeds_22 : decode cX2_readDeeds 22 = .ok (.iconst 1, 1) := by decide +kernel
theorem dX2_readDeeds_23 : decode cX2_readDeeds 23 = .ok (.ireturn, 1) := by decide +kernel
theorem dX2_readDeeds_24 : decode cX2_readDeeds 24 = .ok (.aload_n 0, 1) := by decide +kernel
theorem dX2_readDeeds_25 : decode cX2_readDeeds 25 = .ok (.getfield 10, 3) := by decide +kernel
theorem dX2_readDeeds_28 : decode cX2_readDeeds 28 = .ok (.bipush 7, 2) := by decide +kernel
theorem dX2_readDeeds_30 : decode cX2_readDeeds 30 = .ok (.invokevirtual 76, 3) := by decide +kernel
theorem dX2_readDeeds_33 : decode cX2_readDeeds 33 = .ok (.istore 4, 2) := by decide +kernel
theorem dX2_readDeeds_35 : decode cX2_readDeeds 35 = .ok (.iload 4, 2) := by decide +kernel
theorem dX2_readDeeds_37 : decode cX2_readDeeds 37 = .ok (.ifCond .ge 5, 3) := by decide +kernel
theorem dX2_readDeeds_40 : decode cX2_readDeeds 40 = .ok (.iconst 0, 1) := by decide +kernel
theorem dX2_readDeeds_41 : decode cX2_readDeeds 41 = .ok (.ireturn, 1) := by decide +kernel
theorem dX2_readDeeds_42 : decode cX2_readDeeds 42 = .ok (.aload_n 1, 1) := by decide +kernel
theorem dX2_readDeeds_43 : decode cX2_readDeeds 43 = .ok (.getfield 97, 3) := by decide +kernel
theorem dX2_readDeeds_46 : decode cX2_readDeeds 46 = .ok (.iload_n 2, 1) := by decide +kernel
theorem dX2_readDeeds_47 : decode cX2_readDeeds 47 = .ok (.dup2, 1) := by decide +kernel
theorem dX2_readDeeds_48 : decode cX2_readDeeds 48 = .ok (.iaload, 1) := by decide +kernel
theorem dX2_readDeeds_49 : decode cX2_readDeeds 49 = .ok (.iconst 1, 1) := by decide +kernel
theorem dX2_readDeeds_50 : decode cX2_readDeeds 50 = .ok (.iload 4, 2) := by decide +kernel
theorem dX2_readDeeds_52 : decode cX2_readDeeds 52 = .ok (.ishl, 1) := by decide +kernel
theorem dX2_readDeeds_53 : decode cX2_readDeeds 53 = .ok (.ior, 1) := by decide +kernel
theorem dX2_readDeeds_54 : decode cX2_readDeeds 54 = .ok (.iastore, 1) := by decide +kernel
theorem dX2_readDeeds_55 : decode cX2_readDeeds 55 = .ok (.iinc 3 1, 3) := by decide +kernel
theorem dX2_readDeeds_58 : decode cX2_readDeeds 58 = .ok (.goto (-56), 3) := by decide +kernel
theorem dX2_readDeeds_61 : decode cX2_readDeeds 61 = .ok (.iconst 1, 1) := by decide +kernel
theorem dX2_readDeeds_62 : decode cX2_readDeeds 62 = .ok (.ireturn, 1) := by decide +kernel
set_option maxRecDepth 20000 in
theorem ggX2_readFarm_X5_takeNumber : GoodIn wsX2_readFarm wsX5_takeNumber := goodIn_r _ [10, 11, 12, 13, 14, 15, 16, 9, 17, 18, 97, 98, 99, 100, 101, 102, 103] rfl (by decide +kernel)
set_option maxRecDepth 20000 in
theorem gX2_readFarm_X5_takeNumber : GoodIn wsX2_readFarm (wsV RX2 76 RX5 yX5_takeNumber wsX5_takeNumber) := goodIn_app (goodIn_of _ (by decide +kernel)) ggX2_readFarm_X5_takeNumber
set_option maxRecDepth 20000 in
theorem ggX2_readFarm_X5_takesWord : GoodIn wsX2_readFarm wsX5_takesWord := goodIn_r _ [22, 23, 24, 25, 9, 26, 11, 12, 27, 28, 29, 30, 31, 32, 33, 34, 35, 36, 37, 38, 39, 40, 41, 42, 43, 44, 45, 46, 47, 48, 49, 50, 51, 52, 53, 54, 55, 56, 57, 58, 59, 60, 61, 62, 63, 64, 65, 66, 67, 68, 69, 70, 71, 72, 73, 74, 75, 76, 77, 78, 14, 15, 16, 17, 18, 97, 98, 99, 100, 101, 102, 103] rfl (by decide +kernel)
set_option maxRecDepth 20000 in
theorem gX2_readFarm_X5_takesWord : GoodIn wsX2_readFarm (wsV RX2 53 RX5 yX5_takesWord wsX5_takesWord) := goodIn_app (goodIn_of _ (by decide +kernel)) ggX2_readFarm_X5_takesWord
set_option maxRecDepth 20000 in
theorem ggX2_readFarm_X2_readNumber : GoodIn wsX2_readFarm wsX2_readNumber := goodIn_r _ [83, 1, 6, 7, 8, 9, 10, 11, 12, 13, 14, 15, 16, 17, 18, 84, 97, 98, 99, 100, 101, 102, 103] rfl (by decide +kernel)
set_option maxRecDepth 20000 in
theorem gX2_readFarm_X2_readNumber : GoodIn wsX2_readFarm (wsV RX2 70 RX2 yX2_readNumber wsX2_readNumber) := goodIn_app (goodIn_of _ (by decide +kernel)) ggX2_readFarm_X2_readNumber
theorem dX2_readFarm_0 : decode cX2_readFarm 0 = .ok (.aload_n 0, 1) := by decide +kernel
theorem dX2_readFarm_1 : decode cX2_readFarm 1 = .ok (.getfield 10, 3) := by decide +kernel
theorem dX2_readFarm_4 : decode cX2_readFarm 4 = .ok (.iconst 3, 1) := by decide +kernel
theorem dX2_readFarm_5 : decode cX2_readFarm 5 = .ok (.invokevirtual 76, 3) := by decide +kernel
theorem dX2_readFarm_8 : decode cX2_readFarm 8 = .ok (.istore_n 2, 1) := by decide +kernel
theorem dX2_readFarm_9 : decode cX2_readFarm 9 = .ok (.iload_n 2, 1) := by decide +kernel
theorem dX2_readFarm_10 : decode cX2_readFarm 10 = .ok (.ifCond .ge 5, 3) := by decide +kernel
theorem dX2_readFarm_13 : decode cX2_readFarm 13 = .ok (.iconst 0, 1) := by decide +kernel
theorem dX2_readFarm_14 : decode cX2_readFarm 14 = .ok (.ireturn, 1) := by decide +kernel
theorem dX2_readFarm_15 : decode cX2_readFarm 15 = .ok (.aload_n 0, 1) := by decide +kernel
theorem dX2_readFarm_16 : decode cX2_readFarm 16 = .ok (.getfield 10, 3) := by decide +kernel
theorem dX2_readFarm_19 : decode cX2_readFarm 19 = .ok (.ldc 100, 2) := by decide +kernel
theorem dX2_readFarm_21 : decode cX2_readFarm 21 = .ok (.invokevirtual 53, 3) := by decide +kernel
theorem dX2_readFarm_24 : decode cX2_readFarm 24 = .ok (.ifCond .eq 19, 3) := by decide +kernel
theorem dX2_readFarm_27 : decode cX2_readFarm 27 = .ok (.aload_n 0, 1) := by decide +kernel
theorem dX2_readFarm_28 : decode cX2_readFarm 28 = .ok (.aload_n 1, 1) := by decide +kernel
theorem dX2_readFarm_29 : decode cX2_readFarm 29 = .ok (.getfield 102, 3) := by decide +kernel
theorem dX2_readFarm_32 : decode cX2_readFarm 32 = .ok (.iload_n 2, 1) := by decide +kernel
theorem dX2_readFarm_33 : decode cX2_readFarm 33 = .ok (.bipush 20, 2) := by decide +kernel
theorem dX2_readFarm_35 : decode cX2_readFarm 35 = .ok (.invokevirtual 70, 3) := by decide +kernel
theorem dX2_readFarm_38 : decode cX2_readFarm 38 = .ok (.ifCond .ne 5, 3) := by decide +kernel
theorem dX2_readFarm_41 : decode cX2_readFarm 41 = .ok (.iconst 0, 1) := by decide +kernel
theorem dX2_readFarm_42 : decode cX2_readFarm 42 = .ok (.ireturn, 1) := by decide +kernel
theorem dX2_readFarm_43 : decode cX2_readFarm 43 = .ok (.aload_n 0, 1) := by decide +kernel
theorem dX2_readFarm_44 : decode cX2_readFarm 44 = .ok (.getfield 10, 3) := by decide +kernel
theorem dX2_readFarm_47 : decode cX2_readFarm 47 = .ok (.ldc 104, 2) := by decide +kernel
theorem dX2_readFarm_49 : decode cX2_readFarm 49 = .ok (.invokevirtual 53, 3) := by decide +kernel
theorem dX2_readFarm_52 : decode cX2_readFarm 52 = .ok (.ifCond .eq 20, 3) := by decide +kernel
theorem dX2_readFarm_55 : decode cX2_readFarm 55 = .ok (.aload_n 0, 1) := by decide +kernel
theorem dX2_readFarm_56 : decode cX2_readFarm 56 = .ok (.aload_n 1, 1) := by decide +kernel
theorem dX2_readFarm_57 : decode cX2_readFarm 57 = .ok (.getfield 106, 3) := by decide +kernel
theorem dX2_readFarm_60 : decode cX2_readFarm 60 = .ok (.iload_n 2, 1) := by decide +kernel
theorem dX2_readFarm_61 : decode cX2_readFarm 61 = .ok (.sipush 9999, 3) := by decide +kernel
theorem dX2_readFarm_64 : decode cX2_readFarm 64 = .ok (.invokevirtual 70, 3) := by decide +kernel
theorem dX2_readFarm_67 : decode cX2_readFarm 67 = .ok (.ifCond .ne 5, 3) := by decide +kernel
theorem dX2_readFarm_70 : decode cX2_readFarm 70 = .ok (.iconst 0, 1) := by decide +kernel
theorem dX2_readFarm_71 : decode cX2_readFarm 71 = .ok (.ireturn, 1) := by decide +kernel
theorem dX2_readFarm_72 : decode cX2_readFarm 72 = .ok (.aload_n 0, 1) := by decide +kernel
theorem dX2_readFarm_73 : decode cX2_readFarm 73 = .ok (.getfield 10, 3) := by decide +kernel
theorem dX2_readFarm_76 : decode cX2_readFarm 76 = .ok (.ldc 109, 2) := by decide +kernel
theorem dX2_readFarm_78 : decode cX2_readFarm 78 = .ok (.invokevirtual 53, 3) := by decide +kernel
theorem dX2_readFarm_81 : decode cX2_readFarm 81 = .ok (.ifCond .eq 21, 3) := by decide +kernel
theorem dX2_readFarm_84 : decode cX2_readFarm 84 = .ok (.aload_n 0, 1) := by decide +kernel
theorem dX2_readFarm_85 : decode cX2_readFarm 85 = .ok (.aload_n 1, 1) := by decide +kernel
theorem dX2_readFarm_86 : decode cX2_readFarm 86 = .ok (.getfield 111, 3) := by decide +kernel
theorem dX2_readFarm_89 : decode cX2_readFarm 89 = .ok (.iload_n 2, 1) := by decide +kernel
theorem dX2_readFarm_90 : decode cX2_readFarm 90 = .ok (.aload_n 1, 1) := by decide +kernel
theorem dX2_readFarm_91 : decode cX2_readFarm 91 = .ok (.getfield 93, 3) := by decide +kernel
theorem dX2_readFarm_94 : decode cX2_readFarm 94 = .ok (.iconst 1, 1) := by decide +kernel
theorem dX2_readFarm_95 : decode cX2_readFarm 95 = .ok (.isub, 1) := by decide +kernel
theorem dX2_readFarm_96 : decode cX2_readFarm 96 = .ok (.invokevirtual 70, 3) := by decide +kernel
theorem dX2_readFarm_99 : decode cX2_readFarm 99 = .ok (.ifCond .eq 7, 3) := by decide +kernel
theorem dX2_readFarm_102 : decode cX2_readFarm 102 = .ok (.iconst 1, 1) := by decide +kernel
theorem dX2_readFarm_103 : decode cX2_readFarm 103 = .ok (.goto 4, 3) := by decide +kernel
theorem dX2_readFarm_106 : decode cX2_readFarm 106 = .ok (.iconst 0, 1) := by decide +kernel
theorem dX2_readFarm_107 : decode cX2_readFarm 107 = .ok (.ireturn, 1) := by decide +kernel
theorem dX3_init_0 : decode cX3_init 0 = .ok (.aload_n 0, 1) := by decide +kernel
theorem dX3_init_1 : decode cX3_init 1 = .ok (.invokespecial 1, 3) := by decide +kernel
theorem dX3_init_4 : decode cX3_init 4 = .ok (.aload_n 0, 1) := by decide +kernel
theorem dX3_init_5 : decode cX3_init 5 = .ok (.iconst 0, 1) := by decide +kernel
theorem dX3_init_6 : decode cX3_init 6 = .ok (.putfield 7, 3) := by decide +kernel
theorem dX3_init_9 : decode cX3_init 9 = .ok (.aload_n 0, 1) := by decide +kernel
theorem dX3_init_10 : decode cX3_init 10 = .ok (.iconst 0, 1) := by decide +kernel
theorem dX3_init_11 : decode cX3_init 11 = .ok (.putfield 13, 3) := by decide +kernel
theorem dX3_init_14 : decode cX3_init 14 = .ok (.aload_n 0, 1) := by decide +kernel
theorem dX3_init_15 : decode cX3_init 15 = .ok (.bipush 40, 2) := by decide +kernel
theorem dX3_init_17 : decode cX3_init 17 = .ok (.newarray .long, 2) := by decide +kernel
theorem dX3_init_19 : decode cX3_init 19 = .ok (.putfield 16, 3) := by decide +kernel
theorem dX3_init_22 : decode cX3_init 22 = .ok (.return_, 1) := by decide +kernel
theorem dX3_areBits_0 : decode cX3_areBits 0 = .ok (.iload_n 0, 1) := by decide +kernel
theorem dX3_areBits_1 : decode cX3_areBits 1 = .ok (.ifCond .eq 21, 3) := by decide +kernel
theorem dX3_areBits_4 : decode cX3_areBits 4 = .ok (.iload_n 0, 1) := by decide +kernel
theorem dX3_areBits_5 : decode cX3_areBits 5 = .ok (.bipush 8, 2) := by decide +kernel
theorem dX3_areBits_7 : decode cX3_areBits 7 = .ok (.if_icmp .eq 15, 3) := by decide +kernel
theorem dX3_areBits_10 : decode cX3_areBits 10 = .ok (.iload_n 0, 1) := by decide +kernel
theorem dX3_areBits_11 : decode cX3_areBits 11 = .ok (.bipush 16, 2) := by decide +kernel
theorem dX3_areBits_13 : decode cX3_areBits 13 = .ok (.if_icmp .eq 9, 3) := by decide +kernel
theorem dX3_areBits_16 : decode cX3_areBits 16 = .ok (.iload_n 0, 1) := by decide +kernel
theorem dX3_areBits_17 : decode cX3_areBits 17 = .ok (.bipush 64, 2) := by decide +kernel
theorem dX3_areBits_19 : decode cX3_areBits 19 = .ok (.if_icmp .ne 7, 3) := by decide +kernel
theorem dX3_areBits_22 : decode cX3_areBits 22 = .ok (.iconst 1, 1) := by decide +kernel
theorem dX3_areBits_23 : decode cX3_areBits 23 = .ok (.goto 4, 3) := by decide +kernel
theorem dX3_areBits_26 : decode cX3_areBits 26 = .ok (.iconst 0, 1) := by decide +kernel
theorem dX3_areBits_27 : decode cX3_areBits 27 = .ok (.ireturn, 1) := by decide +kernel
theorem dX3_isMissing_0 : decode cX3_isMissing 0 = .ok (.aload_n 0, 1) := by decide +kernel
theorem dX3_isMissing_1 : decode cX3_isMissing 1 = .ok (.getfield 7, 3) := by decide +kernel
theorem dX3_isMissing_4 : decode cX3_isMissing 4 = .ok (.ifCond .ne 7, 3) := by decide +kernel
theorem dX3_isMissing_7 : decode cX3_isMissing 7 = .ok (.iconst 1, 1) := by decide +kernel
theorem dX3_isMissing_8 : decode cX3_isMissing 8 = .ok (.goto 4, 3) := by decide +kernel
theorem dX3_isMissing_11 : decode cX3_isMissing 11 = .ok (.iconst 0, 1) := by decide +kernel
theorem dX3_isMissing_12 : decode cX3_isMissing 12 = .ok (.ireturn, 1) := by decide +kernel
set_option maxRecDepth 20000 in
theorem ggX3_clear_J7_fill_d0a16 : GoodIn wsX3_clear wsJ7_fill_d0a16 := goodIn_r _ [7] rfl (by decide +kernel)
set_option maxRecDepth 20000 in
theorem gX3_clear_J7_fill_d0a16 : GoodIn wsX3_clear (va_wsS RX3 20 yJ7_fill_d0a16 wsJ7_fill_d0a16) := goodIn_app (goodIn_of _ (by decide +kernel)) ggX3_clear_J7_fill_d0a16
theorem dX3_clear_0 : decode cX3_clear 0 = .ok (.aload_n 0, 1) := by decide +kernel
theorem dX3_clear_1 : decode cX3_clear 1 = .ok (.iload_n 1, 1) := by decide +kernel
theorem dX3_clear_2 : decode cX3_clear 2 = .ok (.putfield 7, 3) := by decide +kernel
theorem dX3_clear_5 : decode cX3_clear 5 = .ok (.aload_n 0, 1) := by decide +kernel
theorem dX3_clear_6 : decode cX3_clear 6 = .ok (.iload_n 1, 1) := by decide +kernel
theorem dX3_clear_7 : decode cX3_clear 7 = .ok (.ifCond .ne 7, 3) := by decide +kernel
theorem dX3_clear_10 : decode cX3_clear 10 = .ok (.iconst 0, 1) := by decide +kernel
theorem dX3_clear_11 : decode cX3_clear 11 = .ok (.goto 4, 3) := by decide +kernel
theorem dX3_clear_14 : decode cX3_clear 14 = .ok (.iload_n 2, 1) := by decide +kernel
theorem dX3_clear_15 : decode cX3_clear 15 = .ok (.putfield 13, 3) := by decide +kernel
theorem dX3_clear_18 : decode cX3_clear 18 = .ok (.aload_n 0, 1) := by decide +kernel
theorem dX3_clear_19 : decode cX3_clear 19 = .ok (.getfield 16, 3) := by decide +kernel
theorem dX3_clear_22 : decode cX3_clear 22 = .ok (.lconst 0, 1) := by decide +kernel
theorem dX3_clear_23 : decode cX3_clear 23 = .ok (.invokestatic 20, 3) := by decide +kernel
theorem dX3_clear_26 : decode cX3_clear 26 = .ok (.return_, 1) := by decide +kernel
theorem dX3_put_0 : decode cX3_put 0 = .ok (.aload_n 0, 1) := by decide +kernel
theorem dX3_put_1 : decode cX3_put 1 = .ok (.getfield 7, 3) := by decide +kernel
theorem dX3_put_4 : decode cX3_put 4 = .ok (.bipush 8, 2) := by decide +kernel
theorem dX3_put_6 : decode cX3_put 6 = .ok (.if_icmp .ne 16, 3) := by decide +kernel
theorem dX3_put_9 : decode cX3_put 9 = .ok (.aload_n 0, 1) := by decide +kernel
theorem dX3_put_10 : decode cX3_put 10 = .ok (.getfield 16, 3) := by decide +kernel
theorem dX3_put_13 : decode cX3_put 13 = .ok (.iload_n 1, 1) := by decide +kernel
theorem dX3_put_14 : decode cX3_put 14 = .ok (.lload_n 2, 1) := by decide +kernel
theorem dX3_put_15 : decode cX3_put 15 = .ok (.l2i, 1) := by decide +kernel
theorem dX3_put_16 : decode cX3_put 16 = .ok (.i2b, 1) := by decide +kernel
theorem dX3_put_17 : decode cX3_put 17 = .ok (.i2l, 1) := by decide +kernel
theorem dX3_put_18 : decode cX3_put 18 = .ok (.lastore, 1) := by decide +kernel
theorem dX3_put_19 : decode cX3_put 19 = .ok (.goto 32, 3) := by decide +kernel
theorem dX3_put_22 : decode cX3_put 22 = .ok (.aload_n 0, 1) := by decide +kernel
theorem dX3_put_23 : decode cX3_put 23 = .ok (.getfield 7, 3) := by decide +kernel
theorem dX3_put_26 : decode cX3_put 26 = .ok (.bipush 16, 2) := by decide +kernel
theorem dX3_put_28 : decode cX3_put 28 = .ok (.if_icmp .ne 16, 3) := by decide +kernel
theorem dX3_put_31 : decode cX3_put 31 = .ok (.aload_n 0, 1) := by decide +kernel
theorem dX3_put_32 : decode cX3_put 32 = .ok (.getfield 16, 3) := by decide +kernel
theorem dX3_put_35 : decode cX3_put 35 = .ok (.iload_n 1, 1) := by decide +kernel
theorem dX3_put_36 : decode cX3_put 36 = .ok (.lload_n 2, 1) := by decide +kernel
theorem dX3_put_37 : decode cX3_put 37 = .ok (.l2i, 1) := by decide +kernel
theorem dX3_put_38 : decode cX3_put 38 = .ok (.i2s, 1) := by decide +kernel
theorem dX3_put_39 : decode cX3_put 39 = .ok (.i2l, 1) := by decide +kernel
theorem dX3_put_40 : decode cX3_put 40 = .ok (.lastore, 1) := by decide +kernel
theorem dX3_put_41 : decode cX3_put 41 = .ok (.goto 10, 3) := by decide +kernel
theorem dX3_put_44 : decode cX3_put 44 = .ok (.aload_n 0, 1) := by decide +kernel
theorem dX3_put_45 : decode cX3_put 45 = .ok (.getfield 16, 3) := by decide +kernel
theorem dX3_put_48 : decode cX3_put 48 = .ok (.iload_n 1, 1) := by decide +kernel
theorem dX3_put_49 : decode cX3_put 49 = .ok (.lload_n 2, 1) := by decide +kernel
theorem dX3_put_50 : decode cX3_put 50 = .ok (.lastore, 1) := by decide +kernel
theorem dX3_put_51 : decode cX3_put 51 = .ok (.return_, 1) := by decide +kernel
theorem dX3_hasSpan_0 : decode cX3_hasSpan 0 = .ok (.iload_n 1, 1) := by decide +kernel
theorem dX3_hasSpan_1 : decode cX3_hasSpan 1 = .ok (.ifCond .lt 29, 3) := by decide +kernel
theorem dX3_hasSpan_4 : decode cX3_hasSpan 4 = .ok (.iload_n 2, 1) := by decide +kernel
theorem dX3_hasSpan_5 : decode cX3_hasSpan 5 = .ok (.ifCond .lt 25, 3) := by decide +kernel
theorem dX3_hasSpan_8 : decode cX3_hasSpan 8 = .ok (.iload_n 2, 1) := by decide +kernel
theorem dX3_hasSpan_9 : decode cX3_hasSpan 9 = .ok (.aload_n 0, 1) := by decide +kernel
theorem dX3_hasSpan_10 : decode cX3_hasSpan 10 = .ok (.getfield 13, 3) := by decide +kernel
theorem dX3_hasSpan_13 : decode cX3_hasSpan 13 = .ok (.if_icmp .gt 17, 3) := by decide +kernel
theorem dX3_hasSpan_16 : decode cX3_hasSpan 16 = .ok (.iload_n 1, 1) := by decide +kernel
theorem dX3_hasSpan_17 : decode cX3_hasSpan 17 = .ok (.aload_n 0, 1) := by decide +kernel
theorem dX3_hasSpan_18 : decode cX3_hasSpan 18 = .ok (.getfield 13, 3) := by decide +kernel
theorem dX3_hasSpan_21 : decode cX3_hasSpan 21 = .ok (.iload_n 2, 1) := by decide +kernel
theorem dX3_hasSpan_22 : decode cX3_hasSpan 22 = .ok (.isub, 1) := by decide +kernel
theorem dX3_hasSpan_23 : decode cX3_hasSpan 23 = .ok (.if_icmp .gt 7, 3) := by decide +kernel
theorem dX3_hasSpan_26 : decode cX3_hasSpan 26 = .ok (.iconst 1, 1) := by decide +kernel
theorem dX3_hasSpan_27 : decode cX3_hasSpan 27 = .ok (.goto 4, 3) := by decide +kernel
theorem dX3_hasSpan_30 : decode cX3_hasSpan 30 = .ok (.iconst 0, 1) := by decide +kernel
theorem dX3_hasSpan_31 : decode cX3_hasSpan 31 = .ok (.ireturn, 1) := by decide +kernel
theorem dX4_init_0 : decode cX4_init 0 = .ok (.aload_n 0, 1) := by decide +kernel
theorem dX4_init_1 : decode cX4_init 1 = .ok (.invokespecial 1, 3) := by decide +kernel
theorem dX4_init_4 : decode cX4_init 4 = .ok (.aload_n 0, 1) := by decide +kernel
theorem dX4_init_5 : decode cX4_init 5 = .ok (.bipush 120, 2) := by decide +kernel
theorem dX4_init_7 : decode cX4_init 7 = .ok (.newarray .int, 2) := by decide +kernel
theorem dX4_init_9 : decode cX4_init 9 = .ok (.putfield 9, 3) := by decide +kernel
theorem dX4_init_12 : decode cX4_init 12 = .ok (.aload_n 0, 1) := by decide +kernel
theorem dX4_init_13 : decode cX4_init 13 = .ok (.iconst 0, 1) := by decide +kernel
theorem dX4_init_14 : decode cX4_init 14 = .ok (.putfield 13, 3) := by decide +kernel
theorem dX4_init_17 : decode cX4_init 17 = .ok (.return_, 1) := by decide +kernel
theorem dX4_append_0 : decode cX4_append 0 = .ok (.iload_n 2, 1) := by decide +kernel
theorem dX4_append_1 : decode cX4_append 1 = .ok (.iconst 1, 1) := by decide +kernel
theorem dX4_append_2 : decode cX4_append 2 = .ok (.isub, 1) := by decide +kernel
theorem dX4_append_3 : decode cX4_append 3 = .ok (.istore_n 3, 1) := by decide +kernel
theorem dX4_append_4 : decode cX4_append 4 = .ok (.iload_n 3, 1) := by decide +kernel
theorem dX4_append_5 : decode cX4_append 5 = .ok (.ifCond .lt 47, 3) := by decide +kernel
theorem dX4_append_8 : decode cX4_append 8 = .ok (.aload_n 0, 1) := by decide +kernel
theorem dX4_append_9 : decode cX4_append 9 = .ok (.getfield 13, 3) := by decide +kernel
theorem dX4_append_12 : decode cX4_append 12 = .ok (.bipush 120, 2) := by decide +kernel
theorem dX4_append_14 : decode cX4_append 14 = .ok (.if_icmp .ge 38, 3) := by decide +kernel
theorem dX4_append_17 : decode cX4_append 17 = .ok (.aload_n 0, 1) := by decide +kernel
theorem dX4_append_18 : decode cX4_append 18 = .ok (.getfield 9, 3) := by decide +kernel
theorem dX4_append_21 : decode cX4_append 21 = .ok (.aload_n 0, 1) := by decide +kernel
theorem dX4_append_22 : decode cX4_append 22 = .ok (.getfield 13, 3) := by decide +kernel
theorem dX4_append_25 : decode cX4_append 25 = .ok (.iload_n 1, 1) := by decide +kernel
theorem dX4_append_26 : decode cX4_append 26 = .ok (.bipush 8, 2) := by decide +kernel
theorem dX4_append_28 : decode cX4_append 28 = .ok (.iload_n 3, 1) := by decide +kernel
theorem dX4_append_29 : decode cX4_append 29 = .ok (.imul, 1) := by decide +kernel
theorem dX4_append_30 : decode cX4_append 30 = .ok (.iushr, 1) := by decide +kernel
theorem dX4_append_31 : decode cX4_append 31 = .ok (.sipush 255, 3) := by decide +kernel
theorem dX4_append_34 : decode cX4_append 34 = .ok (.iand, 1) := by decide +kernel
theorem dX4_append_35 : decode cX4_append 35 = .ok (.iastore, 1) := by decide +kernel
theorem dX4_append_36 : decode cX4_append 36 = .ok (.aload_n 0, 1) := by decide +kernel
theorem dX4_append_37 : decode cX4_append 37 = .ok (.dup, 1) := by decide +kernel
theorem dX4_append_38 : decode cX4_append 38 = .ok (.getfield 13, 3) := by decide +kernel
theorem dX4_append_41 : decode cX4_append 41 = .ok (.iconst 1, 1) := by decide +kernel
theorem dX4_append_42 : decode cX4_append 42 = .ok (.iadd, 1) := by decide +kernel
theorem dX4_append_43 : decode cX4_append 43 = .ok (.putfield 13, 3) := by decide +kernel
theorem dX4_append_46 : decode cX4_append 46 = .ok (.iinc 3 (-1), 3) := by decide +kernel
theorem dX4_append_49 : decode cX4_append 49 = .ok (.goto (-45), 3) := by decide +kernel
theorem dX4_append_52 : decode cX4_append 52 = .ok (.return_, 1) := by decide +kernel
theorem dX5_init_0 : decode cX5_init 0 = .ok (.aload_n 0, 1) := by decide +kernel
theorem dX5_init_1 : decode cX5_init 1 = .ok (.invokespecial 1, 3) := by decide +kernel
theorem dX5_init_4 : decode cX5_init 4 = .ok (.aload_n 0, 1) := by decide +kernel
theorem dX5_init_5 : decode cX5_init 5 = .ok (.bipush 121, 2) := by decide +kernel
theorem dX5_init_7 : decode cX5_init 7 = .ok (.newarray .int, 2) := by decide +kernel
theorem dX5_init_9 : decode cX5_init 9 = .ok (.putfield 9, 3) := by decide +kernel
theorem dX5_init_12 : decode cX5_init 12 = .ok (.aload_n 0, 1) := by decide +kernel
theorem dX5_init_13 : decode cX5_init 13 = .ok (.bipush 121, 2) := by decide +kernel
theorem dX5_init_15 : decode cX5_init 15 = .ok (.newarray .int, 2) := by decide +kernel
theorem dX5_init_17 : decode cX5_init 17 = .ok (.putfield 15, 3) := by decide +kernel
theorem dX5_init_20 : decode cX5_init 20 = .ok (.aload_n 0, 1) := by decide +kernel
theorem dX5_init_21 : decode cX5_init 21 = .ok (.bipush 121, 2) := by decide +kernel
theorem dX5_init_23 : decode cX5_init 23 = .ok (.newarray .int, 2) := by decide +kernel
theorem dX5_init_25 : decode cX5_init 25 = .ok (.putfield 18, 3) := by decide +kernel
theorem dX5_init_28 : decode cX5_init 28 = .ok (.aload_n 0, 1) := by decide +kernel
theorem dX5_init_29 : decode cX5_init 29 = .ok (.bipush 121, 2) := by decide +kernel
theorem dX5_init_31 : decode cX5_init 31 = .ok (.newarray .int, 2) := by decide +kernel
theorem dX5_init_33 : decode cX5_init 33 = .ok (.putfield 21, 3) := by decide +kernel
theorem dX5_init_36 : decode cX5_init 36 = .ok (.aload_n 0, 1) := by decide +kernel
theorem dX5_init_37 : decode cX5_init 37 = .ok (.bipush 120, 2) := by decide +kernel
theorem dX5_init_39 : decode cX5_init 39 = .ok (.newarray .int, 2) := by decide +kernel
theorem dX5_init_41 : decode cX5_init 41 = .ok (.putfield 24, 3) := by decide +kernel
theorem dX5_init_44 : decode cX5_init 44 = .ok (.aload_n 0, 1) := by decide +kernel
theorem dX5_init_45 : decode cX5_init 45 = .ok (.iconst 0, 1) := by decide +kernel
theorem dX5_init_46 : decode cX5_init 46 = .ok (.putfield 27, 3) := by decide +kernel
theorem dX5_init_49 : decode cX5_init 49 = .ok (.aload_n 0, 1) := by decide +kernel
theorem dX5_init_50 : decode cX5_init 50 = .ok (.iconst 0, 1) := by decide +kernel
theorem dX5_init_51 : decode cX5_init 51 = .ok (.putfield 31, 3) := by decide +kernel
theorem dX5_init_54 : decode cX5_init 54 = .ok (.return_, 1) := by decide +kernel
set_option maxRecDepth 20000 in
theorem ggX5_scan_X5_sortOf : GoodIn wsX5_scan wsX5_sortOf := goodIn_r _ [14] rfl (by decide +kernel)
set_option maxRecDepth 20000 in
theorem gX5_scan_X5_sortOf : GoodIn wsX5_scan (va_wsS RX5 44 yX5_sortOf wsX5_sortOf) := goodIn_app (goodIn_of _ (by decide +kernel)) ggX5_scan_X5_sortOf
set_option maxRecDepth 20000 in
theorem ggX5_scan_X5_begin : GoodIn wsX5_scan wsX5_begin := goodIn_r _ [18, 19, 8, 20, 10, 21, 32, 33, 34, 35, 36, 37, 38] rfl (by decide +kernel)
set_option maxRecDepth 20000 in
theorem gX5_scan_X5_begin : GoodIn wsX5_scan (wsV RX5 48 RX5 yX5_begin wsX5_begin) := goodIn_app (goodIn_of _ (by decide +kernel)) ggX5_scan_X5_begin
set_option maxRecDepth 20000 in
theorem ggX5_scan_X5_addDigit : GoodIn wsX5_scan wsX5_addDigit := goodIn_r _ [25, 8, 21, 26, 27, 28, 29, 32, 33, 34, 35, 36, 37, 38] rfl (by decide +kernel)
set_option maxRecDepth 20000 in
theorem gX5_scan_X5_addDigit : GoodIn wsX5_scan (wsV RX5 52 RX5 yX5_addDigit wsX5_addDigit) := goodIn_app (goodIn_of _ (by decide +kernel)) ggX5_scan_X5_addDigit
theorem dX5_scan_0 : decode cX5_scan 0 = .ok (.aload_n 1, 1) := by decide +kernel
theorem dX5_scan_1 : decode cX5_scan 1 = .ok (.getfield 34, 3) := by decide +kernel
theorem dX5_scan_4 : decode cX5_scan 4 = .ok (.iconst 0, 1) := by decide +kernel
theorem dX5_scan_5 : decode cX5_scan 5 = .ok (.aload_n 0, 1) := by decide +kernel
theorem dX5_scan_6 : decode cX5_scan 6 = .ok (.getfield 24, 3) := by decide +kernel
theorem dX5_scan_9 : decode cX5_scan 9 = .ok (.iconst 0, 1) := by decide +kernel
theorem dX5_scan_10 : decode cX5_scan 10 = .ok (.aload_n 1, 1) := by decide +kernel
theorem dX5_scan_11 : decode cX5_scan 11 = .ok (.getfield 35, 3) := by decide +kernel
theorem dX5_scan_14 : decode cX5_scan 14 = .ok (.invokestatic 38, 3) := by decide +kernel
theorem dX5_scan_17 : decode cX5_scan 17 = .ok (.aload_n 0, 1) := by decide +kernel
theorem dX5_scan_18 : decode cX5_scan 18 = .ok (.iconst 0, 1) := by decide +kernel
theorem dX5_scan_19 : decode cX5_scan 19 = .ok (.putfield 27, 3) := by decide +kernel
theorem dX5_scan_22 : decode cX5_scan 22 = .ok (.aload_n 0, 1) := by decide +kernel
theorem dX5_scan_23 : decode cX5_scan 23 = .ok (.iconst 0, 1) := by decide +kernel
theorem dX5_scan_24 : decode cX5_scan 24 = .ok (.putfield 31, 3) := by decide +kernel
theorem dX5_scan_27 : decode cX5_scan 27 = .ok (.iconst 0, 1) := by decide +kernel
theorem dX5_scan_28 : decode cX5_scan 28 = .ok (.istore_n 2, 1) := by decide +kernel
theorem dX5_scan_29 : decode cX5_scan 29 = .ok (.iconst 0, 1) := by decide +kernel
theorem dX5_scan_30 : decode cX5_scan 30 = .ok (.istore_n 3, 1) := by decide +kernel
theorem dX5_scan_31 : decode cX5_scan 31 = .ok (.iload_n 3, 1) := by decide +kernel
theorem dX5_scan_32 : decode cX5_scan 32 = .ok (.aload_n 1, 1) := by decide +kernel
theorem dX5_scan_33 : decode cX5_scan 33 = .ok (.getfield 35, 3) := by decide +kernel
theorem dX5_scan_36 : decode cX5_scan 36 = .ok (.if_icmp .ge 104, 3) := by decide +kernel
theorem dX5_scan_39 : decode cX5_scan 39 = .ok (.aload_n 0, 1) := by decide +kernel
theorem dX5_scan_40 : decode cX5_scan 40 = .ok (.getfield 24, 3) := by decide +kernel
theorem dX5_scan_43 : decode cX5_scan 43 = .ok (.iload_n 3, 1) := by decide +kernel
theorem dX5_scan_44 : decode cX5_scan 44 = .ok (.iaload, 1) := by decide +kernel
theorem dX5_scan_45 : decode cX5_scan 45 = .ok (.invokestatic 44, 3) := by decide +kernel
theorem dX5_scan_48 : decode cX5_scan 48 = .ok (.istore 4, 2) := by decide +kernel
theorem dX5_scan_50 : decode cX5_scan 50 = .ok (.iload 4, 2) := by decide +kernel
theorem dX5_scan_52 : decode cX5_scan 52 = .ok (.iload_n 2, 1) := by decide +kernel
theorem dX5_scan_53 : decode cX5_scan 53 = .ok (.if_icmp .ne 19, 3) := by decide +kernel
theorem dX5_scan_56 : decode cX5_scan 56 = .ok (.iload 4, 2) := by decide +kernel
theorem dX5_scan_58 : decode cX5_scan 58 = .ok (.iconst 1, 1) := by decide +kernel
theorem dX5_scan_59 : decode cX5_scan 59 = .ok (.if_icmp .eq 9, 3) := by decide +kernel
theorem dX5_scan_62 : decode cX5_scan 62 = .ok (.iload 4, 2) := by decide +kernel
theorem dX5_scan_64 : decode cX5_scan 64 = .ok (.iconst 2, 1) := by decide +kernel
theorem dX5_scan_65 : decode cX5_scan 65 = .ok (.if_icmp .ne 7, 3) := by decide +kernel
theorem dX5_scan_68 : decode cX5_scan 68 = .ok (.iconst 1, 1) := by decide +kernel
theorem dX5_scan_69 : decode cX5_scan 69 = .ok (.goto 4, 3) := by decide +kernel
theorem dX5_scan_72 : decode cX5_scan 72 = .ok (.iconst 0, 1) := by decide +kernel
theorem dX5_scan_73 : decode cX5_scan 73 = .ok (.istore 5, 2) := by decide +kernel
theorem dX5_scan_75 : decode cX5_scan 75 = .ok (.iload 4, 2) := by decide +kernel
theorem dX5_scan_77 : decode cX5_scan 77 = .ok (.ifCond .eq 15, 3) := by decide +kernel
theorem dX5_scan_80 : decode cX5_scan 80 = .ok (.iload 5, 2) := by decide +kernel
theorem dX5_scan_82 : decode cX5_scan 82 = .ok (.ifCond .ne 10, 3) := by decide +kernel
theorem dX5_scan_85 : decode cX5_scan 85 = .ok (.aload_n 0, 1) := by decide +kernel
theorem dX5_scan_86 : decode cX5_scan 86 = .ok (.iload 4, 2) := by decide +kernel
theorem dX5_scan_88 : decode cX5_scan 88 = .ok (.iload_n 3, 1) := by decide +kernel
theorem dX5_scan_89 : decode cX5_scan 89 = .ok (.invokevirtual 48, 3) := by decide +kernel
theorem dX5_scan_92 : decode cX5_scan 92 = .ok (.iload 5, 2) := by decide +kernel
theorem dX5_scan_94 : decode cX5_scan 94 = .ok (.ifCond .eq 18, 3) := by decide +kernel
theorem dX5_scan_97 : decode cX5_scan 97 = .ok (.aload_n 0, 1) := by decide +kernel
theorem dX5_scan_98 : decode cX5_scan 98 = .ok (.getfield 18, 3) := by decide +kernel
theorem dX5_scan_101 : decode cX5_scan 101 = .ok (.aload_n 0, 1) := by decide +kernel
theorem dX5_scan_102 : decode cX5_scan 102 = .ok (.getfield 27, 3) := by decide +kernel
theorem dX5_scan_105 : decode cX5_scan 105 = .ok (.iconst 1, 1) := by decide +kernel
theorem dX5_scan_106 : decode cX5_scan 106 = .ok (.isub, 1) := by decide +kernel
theorem dX5_scan_107 : decode cX5_scan 107 = .ok (.dup2, 1) := by decide +kernel
theorem dX5_scan_108 : decode cX5_scan 108 = .ok (.iaload, 1) := by decide +kernel
theorem dX5_scan_109 : decode cX5_scan 109 = .ok (.iconst 1, 1) := by decide +kernel
theorem dX5_scan_110 : decode cX5_scan 110 = .ok (.iadd, 1) := by decide +kernel
theorem dX5_scan_111 : decode cX5_scan 111 = .ok (.iastore, 1) := by decide +kernel
theorem dX5_scan_112 : decode cX5_scan 112 = .ok (.iload 4, 2) := by decide +kernel
theorem dX5_scan_114 : decode cX5_scan 114 = .ok (.iconst 2, 1) := by decide +kernel
theorem dX5_scan_115 : decode cX5_scan 115 = .ok (.if_icmp .ne 16, 3) := by decide +kernel
theorem dX5_scan_118 : decode cX5_scan 118 = .ok (.aload_n 0, 1) := by decide +kernel
theorem dX5_scan_119 : decode cX5_scan 119 = .ok (.aload_n 0, 1) := by decide +kernel
theorem dX5_scan_120 : decode cX5_scan 120 = .ok (.getfield 24, 3) := by decide +kernel
theorem dX5_scan_123 : decode cX5_scan 123 = .ok (.iload_n 3, 1) := by decide +kernel
theorem dX5_scan_124 : decode cX5_scan 124 = .ok (.iaload, 1) := by decide +kernel
theorem dX5_scan_125 : decode cX5_scan 125 = .ok (.bipush 48, 2) := by decide +kernel
theorem dX5_scan_127 : decode cX5_scan 127 = .ok (.isub, 1) := by decide +kernel
theorem dX5_scan_128 : decode cX5_scan 128 = .ok (.invokevirtual 52, 3) := by decide +kernel
theorem dX5_scan_131 : decode cX5_scan 131 = .ok (.iload 4, 2) := by decide +kernel
theorem dX5_scan_133 : decode cX5_scan 133 = .ok (.istore_n 2, 1) := by decide +kernel
theorem dX5_scan_134 : decode cX5_scan 134 = .ok (.iinc 3 1, 3) := by decide +kernel
theorem dX5_scan_137 : decode cX5_scan 137 = .ok (.goto (-106), 3) := by decide +kernel
theorem dX5_scan_140 : decode cX5_scan 140 = .ok (.aload_n 0, 1) := by decide +kernel
theorem dX5_scan_141 : decode cX5_scan 141 = .ok (.iconst 5, 1) := by decide +kernel
theorem dX5_scan_142 : decode cX5_scan 142 = .ok (.aload_n 1, 1) := by decide +kernel
theorem dX5_scan_143 : decode cX5_scan 143 = .ok (.getfield 35, 3) := by decide +kernel
theorem dX5_scan_146 : decode cX5_scan 146 = .ok (.invokevirtual 48, 3) := by decide +kernel
theorem dX5_scan_149 : decode cX5_scan 149 = .ok (.return_, 1) := by decide +kernel
theorem dX5_sortOf_0 : decode cX5_sortOf 0 = .ok (.iload_n 0, 1) := by decide +kernel
theorem dX5_sortOf_1 : decode cX5_sortOf 1 = .ok (.bipush 97, 2) := by decide +kernel
theorem dX5_sortOf_3 : decode cX5_sortOf 3 = .ok (.if_icmp .lt 11, 3) := by decide +kernel
theorem dX5_sortOf_6 : decode cX5_sortOf 6 = .ok (.iload_n 0, 1) := by decide +kernel
theorem dX5_sortOf_7 : decode cX5_sortOf 7 = .ok (.bipush 122, 2) := by decide +kernel
theorem dX5_sortOf_9 : decode cX5_sortOf 9 = .ok (.if_icmp .gt 5, 3) := by decide +kernel
theorem dX5_sortOf_12 : decode cX5_sortOf 12 = .ok (.iconst 1, 1) := by decide +kernel
theorem dX5_sortOf_13 : decode cX5_sortOf 13 = .ok (.ireturn, 1) := by decide +kernel
theorem dX5_sortOf_14 : decode cX5_sortOf 14 = .ok (.iload_n 0, 1) := by decide +kernel
theorem dX5_sortOf_15 : decode cX5_sortOf 15 = .ok (.bipush 48, 2) := by decide +kernel
theorem dX5_sortOf_17 : decode cX5_sortOf 17 = .ok (.if_icmp .lt 11, 3) := by decide +kernel
theorem dX5_sortOf_20 : decode cX5_sortOf 20 = .ok (.iload_n 0, 1) := by decide +kernel
theorem dX5_sortOf_21 : decode cX5_sortOf 21 = .ok (.bipush 57, 2) := by decide +kernel
theorem dX5_sortOf_23 : decode cX5_sortOf 23 = .ok (.if_icmp .gt 5, 3) := by decide +kernel
theorem dX5_sortOf_26 : decode cX5_sortOf 26 = .ok (.iconst 2, 1) := by decide +kernel
theorem dX5_sortOf_27 : decode cX5_sortOf 27 = .ok (.ireturn, 1) := by decide +kernel
theorem dX5_sortOf_28 : decode cX5_sortOf 28 = .ok (.iload_n 0, 1) := by decide +kernel
theorem dX5_sortOf_29 : decode cX5_sortOf 29 = .ok (.bipush 32, 2) := by decide +kernel
theorem dX5_sortOf_31 : decode cX5_sortOf 31 = .ok (.if_icmp .ne 5, 3) := by decide +kernel
theorem dX5_sortOf_34 : decode cX5_sortOf 34 = .ok (.iconst 0, 1) := by decide +kernel
theorem dX5_sortOf_35 : decode cX5_sortOf 35 = .ok (.ireturn, 1) := by decide +kernel
theorem dX5_sortOf_36 : decode cX5_sortOf 36 = .ok (.iload_n 0, 1) := by decide +kernel
theorem dX5_sortOf_37 : decode cX5_sortOf 37 = .ok (.bipush 59, 2) := by decide +kernel
theorem dX5_sortOf_39 : decode cX5_sortOf 39 = .ok (.if_icmp .ne 7, 3) := by decide +kernel
theorem dX5_sortOf_42 : decode cX5_sortOf 42 = .ok (.iconst 3, 1) := by decide +kernel
theorem dX5_sortOf_43 : decode cX5_sortOf 43 = .ok (.goto 4, 3) := by decide +kernel
theorem dX5_sortOf_46 : decode cX5_sortOf 46 = .ok (.iconst 4, 1) := by decide +kernel
theorem dX5_sortOf_47 : decode cX5_sortOf 47 = .ok (.ireturn, 1) := by decide +kernel
theorem dX5_begin_0 : decode cX5_begin 0 = .ok (.aload_n 0, 1) := by decide +kernel
theorem dX5_begin_1 : decode cX5_begin 1 = .ok (.getfield 9, 3) := by decide +kernel
theorem dX5_begin_4 : decode cX5_begin 4 = .ok (.aload_n 0, 1) := by decide +kernel
theorem dX5_begin_5 : decode cX5_begin 5 = .ok (.getfield 27, 3) := by decide +kernel
theorem dX5_begin_8 : decode cX5_begin 8 = .ok (.iload_n 1, 1) := by decide +kernel
theorem dX5_begin_9 : decode cX5_begin 9 = .ok (.iastore, 1) := by decide +kernel
theorem dX5_begin_10 : decode cX5_begin 10 = .ok (.aload_n 0, 1) := by decide +kernel
theorem dX5_begin_11 : decode cX5_begin 11 = .ok (.getfield 15, 3) := by decide +kernel
theorem dX5_begin_14 : decode cX5_begin 14 = .ok (.aload_n 0, 1) := by decide +kernel
theorem dX5_begin_15 : decode cX5_begin 15 = .ok (.getfield 27, 3) := by decide +kernel
theorem dX5_begin_18 : decode cX5_begin 18 = .ok (.iload_n 2, 1) := by decide +kernel
theorem dX5_begin_19 : decode cX5_begin 19 = .ok (.iastore, 1) := by decide +kernel
theorem dX5_begin_20 : decode cX5_begin 20 = .ok (.aload_n 0, 1) := by decide +kernel
theorem dX5_begin_21 : decode cX5_begin 21 = .ok (.getfield 18, 3) := by decide +kernel
theorem dX5_begin_24 : decode cX5_begin 24 = .ok (.aload_n 0, 1) := by decide +kernel
theorem dX5_begin_25 : decode cX5_begin 25 = .ok (.getfield 27, 3) := by decide +kernel
theorem dX5_begin_28 : decode cX5_begin 28 = .ok (.iconst 1, 1) := by decide +kernel
theorem dX5_begin_29 : decode cX5_begin 29 = .ok (.iastore, 1) := by decide +kernel
theorem dX5_begin_30 : decode cX5_begin 30 = .ok (.aload_n 0, 1) := by decide +kernel
theorem dX5_begin_31 : decode cX5_begin 31 = .ok (.getfield 21, 3) := by decide +kernel
theorem dX5_begin_34 : decode cX5_begin 34 = .ok (.aload_n 0, 1) := by decide +kernel
theorem dX5_begin_35 : decode cX5_begin 35 = .ok (.getfield 27, 3) := by decide +kernel
theorem dX5_begin_38 : decode cX5_begin 38 = .ok (.iconst 0, 1) := by decide +kernel
theorem dX5_begin_39 : decode cX5_begin 39 = .ok (.iastore, 1) := by decide +kernel
theorem dX5_begin_40 : decode cX5_begin 40 = .ok (.aload_n 0, 1) := by decide +kernel
theorem dX5_begin_41 : decode cX5_begin 41 = .ok (.dup, 1) := by decide +kernel
theorem dX5_begin_42 : decode cX5_begin 42 = .ok (.getfield 27, 3) := by decide +kernel
theorem dX5_begin_45 : decode cX5_begin 45 = .ok (.iconst 1, 1) := by decide +kernel
theorem dX5_begin_46 : decode cX5_begin 46 = .ok (.iadd, 1) := by decide +kernel
theorem dX5_begin_47 : decode cX5_begin 47 = .ok (.putfield 27, 3) := by decide +kernel
theorem dX5_begin_50 : decode cX5_begin 50 = .ok (.return_, 1) := by decide +kernel
theorem dX5_addDigit_0 : decode cX5_addDigit 0 = .ok (.aload_n 0, 1) := by decide +kernel
theorem dX5_addDigit_1 : decode cX5_addDigit 1 = .ok (.getfield 27, 3) := by decide +kernel
theorem dX5_addDigit_4 : decode cX5_addDigit 4 = .ok (.iconst 1, 1) := by decide +kernel
theorem dX5_addDigit_5 : decode cX5_addDigit 5 = .ok (.isub, 1) := by decide +kernel
theorem dX5_addDigit_6 : decode cX5_addDigit 6 = .ok (.istore_n 2, 1) := by decide +kernel
theorem dX5_addDigit_7 : decode cX5_addDigit 7 = .ok (.aload_n 0, 1) := by decide +kernel
theorem dX5_addDigit_8 : decode cX5_addDigit 8 = .ok (.getfield 21, 3) := by decide +kernel
theorem dX5_addDigit_11 : decode cX5_addDigit 11 = .ok (.iload_n 2, 1) := by decide +kernel
theorem dX5_addDigit_12 : decode cX5_addDigit 12 = .ok (.sipush 10000, 3) := by decide +kernel
theorem dX5_addDigit_15 : decode cX5_addDigit 15 = .ok (.bipush 10, 2) := by decide +kernel
theorem dX5_addDigit_17 : decode cX5_addDigit 17 = .ok (.aload_n 0, 1) := by decide +kernel
theorem dX5_addDigit_18 : decode cX5_addDigit 18 = .ok (.getfield 21, 3) := by decide +kernel
theorem dX5_addDigit_21 : decode cX5_addDigit 21 = .ok (.iload_n 2, 1) := by decide +kernel
theorem dX5_addDigit_22 : decode cX5_addDigit 22 = .ok (.iaload, 1) := by decide +kernel
theorem dX5_addDigit_23 : decode cX5_addDigit 23 = .ok (.imul, 1) := by decide +kernel
theorem dX5_addDigit_24 : decode cX5_addDigit 24 = .ok (.iload_n 1, 1) := by decide +kernel
theorem dX5_addDigit_25 : decode cX5_addDigit 25 = .ok (.iadd, 1) := by decide +kernel
theorem dX5_addDigit_26 : decode cX5_addDigit 26 = .ok (.invokestatic 58, 3) := by decide +kernel
theorem dX5_addDigit_29 : decode cX5_addDigit 29 = .ok (.iastore, 1) := by decide +kernel
theorem dX5_addDigit_30 : decode cX5_addDigit 30 = .ok (.return_, 1) := by decide +kernel
theorem dX5_isAt_0 : decode cX5_isAt 0 = .ok (.aload_n 0, 1) := by decide +kernel
theorem dX5_isAt_1 : decode cX5_isAt 1 = .ok (.getfield 9, 3) := by decide +kernel
theorem dX5_isAt_4 : decode cX5_isAt 4 = .ok (.aload_n 0, 1) := by decide +kernel
theorem dX5_isAt_5 : decode cX5_isAt 5 = .ok (.getfield 31, 3) := by decide +kernel
theorem dX5_isAt_8 : decode cX5_isAt 8 = .ok (.iaload, 1) := by decide +kernel
theorem dX5_isAt_9 : decode cX5_isAt 9 = .ok (.iload_n 1, 1) := by decide +kernel
theorem dX5_isAt_10 : decode cX5_isAt 10 = .ok (.if_icmp .ne 7, 3) := by decide +kernel
theorem dX5_isAt_13 : decode cX5_isAt 13 = .ok (.iconst 1, 1) := by decide +kernel
theorem dX5_isAt_14 : decode cX5_isAt 14 = .ok (.goto 4, 3) := by decide +kernel
theorem dX5_isAt_17 : decode cX5_isAt 17 = .ok (.iconst 0, 1) := by decide +kernel
theorem dX5_isAt_18 : decode cX5_isAt 18 = .ok (.ireturn, 1) := by decide +kernel
set_option maxRecDepth 20000 in
theorem ggX5_isAtWord_J0_length_8abf5 : GoodIn wsX5_isAtWord wsJ0_length_8abf5 := goodIn_r _ [10, 11, 12, 13, 14, 9, 15, 16, 17] rfl (by decide +kernel)
set_option maxRecDepth 20000 in
theorem gX5_isAtWord_J0_length_8abf5 : GoodIn wsX5_isAtWord (wsV RX5 64 RJ0 yJ0_length_8abf5 wsJ0_length_8abf5) := goodIn_app (goodIn_of _ (by decide +kernel)) ggX5_isAtWord_J0_length_8abf5
set_option maxRecDepth 20000 in
theorem ggX5_isAtWord_J0_charAt_5068e : GoodIn wsX5_isAtWord wsJ0_charAt_5068e := goodIn_r _ [21, 11, 22, 23, 24, 9, 25, 16, 17, 26, 27, 28, 29, 30, 31, 32, 33, 34, 35, 36, 37, 38, 39, 40, 41, 42, 43, 44, 45, 46, 47, 48, 49, 50, 51, 52, 53, 54] rfl (by decide +kernel)
set_option maxRecDepth 20000 in
theorem gX5_isAtWord_J0_charAt_5068e : GoodIn wsX5_isAtWord (wsV RX5 69 RJ0 yJ0_charAt_5068e wsJ0_charAt_5068e) := goodIn_app (goodIn_of _ (by decide +kernel)) ggX5_isAtWord_J0_charAt_5068e
theorem dX5_isAtWord_0 : decode cX5_isAtWord 0 = .ok (.aload_n 0, 1) := by decide +kernel
theorem dX5_isAtWord_1 : decode cX5_isAtWord 1 = .ok (.getfield 9, 3) := by decide +kernel
theorem dX5_isAtWord_4 : decode cX5_isAtWord 4 = .ok (.aload_n 0, 1) := by decide +kernel
theorem dX5_isAtWord_5 : decode cX5_isAtWord 5 = .ok (.getfield 31, 3) := by decide +kernel
theorem dX5_isAtWord_8 : decode cX5_isAtWord 8 = .ok (.iaload, 1) := by decide +kernel
theorem dX5_isAtWord_9 : decode cX5_isAtWord 9 = .ok (.iconst 1, 1) := by decide +kernel
theorem dX5_isAtWord_10 : decode cX5_isAtWord 10 = .ok (.if_icmp .ne 19, 3) := by decide +kernel
theorem dX5_isAtWord_13 : decode cX5_isAtWord 13 = .ok (.aload_n 0, 1) := by decide +kernel
theorem dX5_isAtWord_14 : decode cX5_isAtWord 14 = .ok (.getfield 18, 3) := by decide +kernel
theorem dX5_isAtWord_17 : decode cX5_isAtWord 17 = .ok (.aload_n 0, 1) := by decide +kernel
theorem dX5_isAtWord_18 : decode cX5_isAtWord 18 = .ok (.getfield 31, 3) := by decide +kernel
theorem dX5_isAtWord_21 : decode cX5_isAtWord 21 = .ok (.iaload, 1) := by decide +kernel
theorem dX5_isAtWord_22 : decode cX5_isAtWord 22 = .ok (.aload_n 1, 1) := by decide +kernel
theorem dX5_isAtWord_23 : decode cX5_isAtWord 23 = .ok (.invokevirtual 64, 3) := by decide +kernel
theorem dX5_isAtWord_26 : decode cX5_isAtWord 26 = .ok (.if_icmp .eq 5, 3) := by decide +kernel
theorem dX5_isAtWord_29 : decode cX5_isAtWord 29 = .ok (.iconst 0, 1) := by decide +kernel
theorem dX5_isAtWord_30 : decode cX5_isAtWord 30 = .ok (.ireturn, 1) := by decide +kernel
theorem dX5_isAtWord_31 : decode cX5_isAtWord 31 = .ok (.iconst 0, 1) := by decide +kernel
theorem dX5_isAtWord_32 : decode cX5_isAtWord 32 = .ok (.istore_n 2, 1) := by decide +kernel
theorem dX5_isAtWord_33 : decode cX5_isAtWord 33 = .ok (.iload_n 2, 1) := by decide +kernel
theorem dX5_isAtWord_34 : decode cX5_isAtWord 34 = .ok (.aload_n 1, 1) := by decide +kernel
theorem dX5_isAtWord_35 : decode cX5_isAtWord 35 = .ok (.invokevirtual 64, 3) := by decide +kernel
theorem dX5_isAtWord_38 : decode cX5_isAtWord 38 = .ok (.if_icmp .ge 35, 3) := by decide +kernel
theorem dX5_isAtWord_41 : decode cX5_isAtWord 41 = .ok (.aload_n 0, 1) := by decide +kernel
theorem dX5_isAtWord_42 : decode cX5_isAtWord 42 = .ok (.getfield 24, 3) := by decide +kernel
theorem dX5_isAtWord_45 : decode cX5_isAtWord 45 = .ok (.aload_n 0, 1) := by decide +kernel
theorem dX5_isAtWord_46 : decode cX5_isAtWord 46 = .ok (.getfield 15, 3) := by decide +kernel
theorem dX5_isAtWord_49 : decode cX5_isAtWord 49 = .ok (.aload_n 0, 1) := by decide +kernel
theorem dX5_isAtWord_50 : decode cX5_isAtWord 50 = .ok (.getfield 31, 3) := by decide +kernel
theorem dX5_isAtWord_53 : decode cX5_isAtWord 53 = .ok (.iaload, 1) := by decide +kernel
theorem dX5_isAtWord_54 : decode cX5_isAtWord 54 = .ok (.iload_n 2, 1) := by decide +kernel
theorem dX5_isAtWord_55 : decode cX5_isAtWord 55 = .ok (.iadd, 1) := by decide +kernel
theorem dX5_isAtWord_56 : decode cX5_isAtWord 56 = .ok (.iaload, 1) := by decide +kernel
theorem dX5_isAtWord_57 : decode cX5_isAtWord 57 = .ok (.aload_n 1, 1) := by decide +kernel
theorem dX5_isAtWord_58 : decode cX5_isAtWord 58 = .ok (.iload_n 2, 1) := by decide +kernel
theorem dX5_isAtWord_59 : decode cX5_isAtWord 59 = .ok (.invokevirtual 69, 3) := by decide +kernel
theorem dX5_isAtWord_62 : decode cX5_isAtWord 62 = .ok (.if_icmp .eq 5, 3) := by decide +kernel
theorem dX5_isAtWord_65 : decode cX5_isAtWord 65 = .ok (.iconst 0, 1) := by decide +kernel
theorem dX5_isAtWord_66 : decode cX5_isAtWord 66 = .ok (.ireturn, 1) := by decide +kernel
theorem dX5_isAtWord_67 : decode cX5_isAtWord 67 = .ok (.iinc 2 1, 3) := by decide +kernel
theorem dX5_isAtWord_70 : decode cX5_isAtWord 70 = .ok (.goto (-37), 3) := by decide +kernel
theorem dX5_isAtWord_73 : decode cX5_isAtWord 73 = .ok (.iconst 1, 1) := by decide +kernel
theorem dX5_isAtWord_74 : decode cX5_isAtWord 74 = .ok (.ireturn, 1) := by decide +kernel
theorem dX5_place_0 : decode cX5_place 0 = .ok (.aload_n 0, 1) := by decide +kernel
theorem dX5_place_1 : decode cX5_place 1 = .ok (.getfield 15, 3) := by decide +kernel
theorem dX5_place_4 : decode cX5_place 4 = .ok (.aload_n 0, 1) := by decide +kernel
theorem dX5_place_5 : decode cX5_place 5 = .ok (.getfield 31, 3) := by decide +kernel
theorem dX5_place_8 : decode cX5_place 8 = .ok (.iaload, 1) := by decide +kernel
theorem dX5_place_9 : decode cX5_place 9 = .ok (.ireturn, 1) := by decide +kernel
theorem dX5_goOn_0 : decode cX5_goOn 0 = .ok (.aload_n 0, 1) := by decide +kernel
theorem dX5_goOn_1 : decode cX5_goOn 1 = .ok (.getfield 31, 3) := by decide +kernel
theorem dX5_goOn_4 : decode cX5_goOn 4 = .ok (.aload_n 0, 1) := by decide +kernel
theorem dX5_goOn_5 : decode cX5_goOn 5 = .ok (.getfield 27, 3) := by decide +kernel
theorem dX5_goOn_8 : decode cX5_goOn 8 = .ok (.iconst 1, 1) := by decide +kernel
theorem dX5_goOn_9 : decode cX5_goOn 9 = .ok (.isub, 1) := by decide +kernel
theorem dX5_goOn_10 : decode cX5_goOn 10 = .ok (.if_icmp .ge 13, 3) := by decide +kernel
theorem dX5_goOn_13 : decode cX5_goOn 13 = .ok (.aload_n 0, 1) := by decide +kernel
theorem dX5_goOn_14 : decode cX5_goOn 14 = .ok (.dup, 1) := by decide +kernel
theorem dX5_goOn_15 : decode cX5_goOn 15 = .ok (.getfield 31, 3) := by decide +kernel
theorem dX5_goOn_18 : decode cX5_goOn 18 = .ok (.iconst 1, 1) := by decide +kernel
theorem dX5_goOn_19 : decode cX5_goOn 19 = .ok (.iadd, 1) := by decide +kernel
theorem dX5_goOn_20 : decode cX5_goOn 20 = .ok (.putfield 31, 3) := by decide +kernel
theorem dX5_goOn_23 : decode cX5_goOn 23 = .ok (.return_, 1) := by decide +kernel
set_option maxRecDepth 20000 in
theorem ggX5_takesWord_X5_isAtWord : GoodIn wsX5_takesWord wsX5_isAtWord := goodIn_r _ [5, 6, 7, 8, 9, 10, 11, 12, 13, 14, 15, 16, 17, 18, 19, 20, 21, 22, 23, 24, 25, 26, 27, 28, 29, 30, 31, 32, 33, 34, 35, 36, 37, 38, 39, 40, 41, 42, 43, 44, 45, 46, 47, 48, 49, 50, 51, 52, 53, 54, 55, 56, 57, 58, 59, 65, 66, 67, 68, 69, 70, 71] rfl (by decide +kernel)
set_option maxRecDepth 20000 in
theorem gX5_takesWord_X5_isAtWord : GoodIn wsX5_takesWord (wsV RX5 73 RX5 yX5_isAtWord wsX5_isAtWord) := goodIn_app (goodIn_of _ (by decide +kernel)) ggX5_takesWord_X5_isAtWord
set_option maxRecDepth 20000 in
theorem ggX5_takesWord_X5_goOn : GoodIn wsX5_takesWord wsX5_goOn := goodIn_r _ [63, 7, 64, 65, 66, 67, 68, 69, 70, 71] rfl (by decide +kernel)
set_option maxRecDepth 20000 in
theorem gX5_takesWord_X5_goOn : GoodIn wsX5_takesWord (wsV RX5 77 RX5 yX5_goOn wsX5_goOn) := goodIn_app (goodIn_of _ (by decide +kernel)) ggX5_takesWord_X5_goOn
theorem dX5_takesWord_0 : decode cX5_takesWord 0 = .ok (.aload_n 0, 1) := by decide +kernel
theorem dX5_takesWord_1 : decode cX5_takesWord 1 = .ok (.aload_n 1, 1) := by decide +kernel
theorem dX5_takesWord_2 : decode cX5_takesWord 2 = .ok (.invokevirtual 73, 3) := by decide +kernel
theorem dX5_takesWord_5 : decode cX5_takesWord 5 = .ok (.istore_n 2, 1) := by decide +kernel
theorem dX5_takesWord_6 : decode cX5_takesWord 6 = .ok (.iload_n 2, 1) := by decide +kernel
theorem dX5_takesWord_7 : decode cX5_takesWord 7 = .ok (.ifCond .eq 7, 3) := by decide +kernel
theorem dX5_takesWord_10 : decode cX5_takesWord 10 = .ok (.aload_n 0, 1) := by decide +kernel
theorem dX5_takesWord_11 : decode cX5_takesWord 11 = .ok (.invokevirtual 77, 3) := by decide +kernel
theorem dX5_takesWord_14 : decode cX5_takesWord 14 = .ok (.iload_n 2, 1) := by decide +kernel
theorem dX5_takesWord_15 : decode cX5_takesWord 15 = .ok (.ireturn, 1) := by decide +kernel
set_option maxRecDepth 20000 in
theorem ggX5_takeNumber_X5_goOn : GoodIn wsX5_takeNumber wsX5_goOn := goodIn_r _ [8, 2, 9, 10, 11, 12, 13, 14, 15, 16] rfl (by decide +kernel)
set_option maxRecDepth 20000 in
theorem gX5_takeNumber_X5_goOn : GoodIn wsX5_takeNumber (wsV RX5 77 RX5 yX5_goOn wsX5_goOn) := goodIn_app (goodIn_of _ (by decide +kernel)) ggX5_takeNumber_X5_goOn
theorem dX5_takeNumber_0 : decode cX5_takeNumber 0 = .ok (.aload_n 0, 1) := by decide +kernel
theorem dX5_takeNumber_1 : decode cX5_takeNumber 1 = .ok (.getfield 9, 3) := by decide +kernel
theorem dX5_takeNumber_4 : decode cX5_takeNumber 4 = .ok (.aload_n 0, 1) := by decide +kernel
theorem dX5_takeNumber_5 : decode cX5_takeNumber 5 = .ok (.getfield 31, 3) := by decide +kernel
theorem dX5_takeNumber_8 : decode cX5_takeNumber 8 = .ok (.iaload, 1) := by decide +kernel
theorem dX5_takeNumber_9 : decode cX5_takeNumber 9 = .ok (.iconst 2, 1) := by decide +kernel
theorem dX5_takeNumber_10 : decode cX5_takeNumber 10 = .ok (.if_icmp .ne 16, 3) := by decide +kernel
theorem dX5_takeNumber_13 : decode cX5_takeNumber 13 = .ok (.aload_n 0, 1) := by decide +kernel
theorem dX5_takeNumber_14 : decode cX5_takeNumber 14 = .ok (.getfield 21, 3) := by decide +kernel
theorem dX5_takeNumber_17 : decode cX5_takeNumber 17 = .ok (.aload_n 0, 1) := by decide +kernel
theorem dX5_takeNumber_18 : decode cX5_takeNumber 18 = .ok (.getfield 31, 3) := by decide +kernel
theorem dX5_takeNumber_21 : decode cX5_takeNumber 21 = .ok (.iaload, 1) := by decide +kernel
theorem dX5_takeNumber_22 : decode cX5_takeNumber 22 = .ok (.iload_n 1, 1) := by decide +kernel
theorem dX5_takeNumber_23 : decode cX5_takeNumber 23 = .ok (.if_icmp .le 5, 3) := by decide +kernel
theorem dX5_takeNumber_26 : decode cX5_takeNumber 26 = .ok (.iconst (-1), 1) := by decide +kernel
theorem dX5_takeNumber_27 : decode cX5_takeNumber 27 = .ok (.ireturn, 1) := by decide +kernel
theorem dX5_takeNumber_28 : decode cX5_takeNumber 28 = .ok (.aload_n 0, 1) := by decide +kernel
theorem dX5_takeNumber_29 : decode cX5_takeNumber 29 = .ok (.getfield 21, 3) := by decide +kernel
theorem dX5_takeNumber_32 : decode cX5_takeNumber 32 = .ok (.aload_n 0, 1) := by decide +kernel
theorem dX5_takeNumber_33 : decode cX5_takeNumber 33 = .ok (.getfield 31, 3) := by decide +kernel
theorem dX5_takeNumber_36 : decode cX5_takeNumber 36 = .ok (.iaload, 1) := by decide +kernel
theorem dX5_takeNumber_37 : decode cX5_takeNumber 37 = .ok (.istore_n 2, 1) := by decide +kernel
theorem dX5_takeNumber_38 : decode cX5_takeNumber 38 = .ok (.aload_n 0, 1) := by decide +kernel
theorem dX5_takeNumber_39 : decode cX5_takeNumber 39 = .ok (.invokevirtual 77, 3) := by decide +kernel
theorem dX5_takeNumber_42 : decode cX5_takeNumber 42 = .ok (.iload_n 2, 1) := by decide +kernel
theorem dX5_takeNumber_43 : decode cX5_takeNumber 43 = .ok (.ireturn, 1) := by decide +kernel
set_option maxRecDepth 20000 in
theorem ggX6_init_X1_init : GoodIn wsX6_init wsX1_init := goodIn_r _ [26, 27, 2, 3, 4, 28, 29, 30, 31, 32, 33, 34, 35, 36, 37, 38, 39, 77, 78, 79, 80, 81, 82, 83, 84, 85, 86, 87, 88] rfl (by decide +kernel)
set_option maxRecDepth 20000 in
theorem gX6_init_X1_init_n15 : GoodIn wsX6_init (wsX1_init) := ggX6_init_X1_init
set_option maxRecDepth 20000 in
theorem ggX6_init_X4_init : GoodIn wsX6_init wsX4_init := goodIn_r _ [41, 42, 2, 3, 4, 43, 44, 89, 90] rfl (by decide +kernel)
set_option maxRecDepth 20000 in
theorem gX6_init_X4_init_n32 : GoodIn wsX6_init (wsX4_init) := ggX6_init_X4_init
set_option maxRecDepth 20000 in
theorem ggX6_init_X2_init : GoodIn wsX6_init wsX2_init := goodIn_r _ [46, 47, 2, 3, 48, 49, 50, 51, 52, 53, 54, 4, 55, 56, 57, 58, 59, 60, 61, 95, 96, 97, 98, 99, 100, 101, 91] rfl (by decide +kernel)
set_option maxRecDepth 20000 in
theorem gX6_init_X2_init_n39 : GoodIn wsX6_init (wsX2_init) := ggX6_init_X2_init
set_option maxRecDepth 20000 in
theorem ggX6_init_X3_init : GoodIn wsX6_init wsX3_init := goodIn_r _ [63, 64, 2, 3, 65, 66, 67, 68, 92, 93, 94] rfl (by decide +kernel)
set_option maxRecDepth 20000 in
theorem gX6_init_X3_init_n50 : GoodIn wsX6_init (wsX3_init) := ggX6_init_X3_init
theorem dX6_init_0 : decode cX6_init 0 = .ok (.aload_n 0, 1) := by decide +kernel
theorem dX6_init_1 : decode cX6_init 1 = .ok (.invokespecial 1, 3) := by decide +kernel
theorem dX6_init_4 : decode cX6_init 4 = .ok (.aload_n 0, 1) := by decide +kernel
theorem dX6_init_5 : decode cX6_init 5 = .ok (.bipush 7, 2) := by decide +kernel
theorem dX6_init_7 : decode cX6_init 7 = .ok (.newarray .int, 2) := by decide +kernel
theorem dX6_init_9 : decode cX6_init 9 = .ok (.putfield 9, 3) := by decide +kernel
theorem dX6_init_12 : decode cX6_init 12 = .ok (.aload_n 0, 1) := by decide +kernel
theorem dX6_init_13 : decode cX6_init 13 = .ok (.new 13, 3) := by decide +kernel
theorem dX6_init_16 : decode cX6_init 16 = .ok (.dup, 1) := by decide +kernel
theorem dX6_init_17 : decode cX6_init 17 = .ok (.invokespecial 15, 3) := by decide +kernel
theorem dX6_init_20 : decode cX6_init 20 = .ok (.putfield 16, 3) := by decide +kernel
theorem dX6_init_23 : decode cX6_init 23 = .ok (.aload_n 0, 1) := by decide +kernel
theorem dX6_init_24 : decode cX6_init 24 = .ok (.new 13, 3) := by decide +kernel
theorem dX6_init_27 : decode cX6_init 27 = .ok (.dup, 1) := by decide +kernel
theorem dX6_init_28 : decode cX6_init 28 = .ok (.invokespecial 15, 3) := by decide +kernel
theorem dX6_init_31 : decode cX6_init 31 = .ok (.putfield 20, 3) := by decide +kernel
theorem dX6_init_34 : decode cX6_init 34 = .ok (.aload_n 0, 1) := by decide +kernel
theorem dX6_init_35 : decode cX6_init 35 = .ok (.new 13, 3) := by decide +kernel
theorem dX6_init_38 : decode cX6_init 38 = .ok (.dup, 1) := by decide +kernel
theorem dX6_init_39 : decode cX6_init 39 = .ok (.invokespecial 15, 3) := by decide +kernel
theorem dX6_init_42 : decode cX6_init 42 = .ok (.putfield 23, 3) := by decide +kernel
theorem dX6_init_45 : decode cX6_init 45 = .ok (.aload_n 0, 1) := by decide +kernel
theorem dX6_init_46 : decode cX6_init 46 = .ok (.iconst 0, 1) := by decide +kernel
theorem dX6_init_47 : decode cX6_init 47 = .ok (.putfield 26, 3) := by decide +kernel
theorem dX6_init_50 : decode cX6_init 50 = .ok (.aload_n 0, 1) := by decide +kernel
theorem dX6_init_51 : decode cX6_init 51 = .ok (.new 30, 3) := by decide +kernel
theorem dX6_init_54 : decode cX6_init 54 = .ok (.dup, 1) := by decide +kernel
theorem dX6_init_55 : decode cX6_init 55 = .ok (.invokespecial 32, 3) := by decide +kernel
theorem dX6_init_58 : decode cX6_init 58 = .ok (.putfield 33, 3) := by decide +kernel
theorem dX6_init_61 : decode cX6_init 61 = .ok (.aload_n 0, 1) := by decide +kernel
theorem dX6_init_62 : decode cX6_init 62 = .ok (.new 37, 3) := by decide +kernel
theorem dX6_init_65 : decode cX6_init 65 = .ok (.dup, 1) := by decide +kernel
theorem dX6_init_66 : decode cX6_init 66 = .ok (.invokespecial 39, 3) := by decide +kernel
theorem dX6_init_69 : decode cX6_init 69 = .ok (.putfield 40, 3) := by decide +kernel
theorem dX6_init_72 : decode cX6_init 72 = .ok (.aload_n 0, 1) := by decide +kernel
theorem dX6_init_73 : decode cX6_init 73 = .ok (.iconst 4, 1) := by decide +kernel
theorem dX6_init_74 : decode cX6_init 74 = .ok (.anewarray 44, 3) := by decide +kernel
theorem dX6_init_77 : decode cX6_init 77 = .ok (.putfield 46, 3) := by decide +kernel
theorem dX6_init_80 : decode cX6_init 80 = .ok (.iconst 0, 1) := by decide +kernel
theorem dX6_init_81 : decode cX6_init 81 = .ok (.istore_n 1, 1) := by decide +kernel
theorem dX6_init_82 : decode cX6_init 82 = .ok (.iload_n 1, 1) := by decide +kernel
theorem dX6_init_83 : decode cX6_init 83 = .ok (.iconst 4, 1) := by decide +kernel
theorem dX6_init_84 : decode cX6_init 84 = .ok (.if_icmp .ge 22, 3) := by decide +kernel
theorem dX6_init_87 : decode cX6_init 87 = .ok (.aload_n 0, 1) := by decide +kernel
theorem dX6_init_88 : decode cX6_init 88 = .ok (.getfield 46, 3) := by decide +kernel
theorem dX6_init_91 : decode cX6_init 91 = .ok (.iload_n 1, 1) := by decide +kernel
theorem dX6_init_92 : decode cX6_init 92 = .ok (.new 44, 3) := by decide +kernel
theorem dX6_init_95 : decode cX6_init 95 = .ok (.dup, 1) := by decide +kernel
theorem dX6_init_96 : decode cX6_init 96 = .ok (.invokespecial 50, 3) := by decide +kernel
theorem dX6_init_99 : decode cX6_init 99 = .ok (.aastore, 1) := by decide +kernel
theorem dX6_init_100 : decode cX6_init 100 = .ok (.iinc 1 1, 3) := by decide +kernel
theorem dX6_init_103 : decode cX6_init 103 = .ok (.goto (-21), 3) := by decide +kernel
theorem dX6_init_106 : decode cX6_init 106 = .ok (.return_, 1) := by decide +kernel
set_option maxRecDepth 20000 in
theorem ggX6_farm_X6_isFarm : GoodIn wsX6_farm wsX6_isFarm := goodIn_r _ [5, 6, 7, 4, 8] rfl (by decide +kernel)
set_option maxRecDepth 20000 in
theorem gX6_farm_X6_isFarm : GoodIn wsX6_farm (va_wsS RX6 51 yX6_isFarm wsX6_isFarm) := goodIn_app (goodIn_of _ (by decide +kernel)) ggX6_farm_X6_isFarm
set_option maxRecDepth 20000 in
theorem ggX6_farm_X6_isWithin : GoodIn wsX6_farm wsX6_isWithin := goodIn_r _ [8] rfl (by decide +kernel)
set_option maxRecDepth 20000 in
theorem gX6_farm_X6_isWithin : GoodIn wsX6_farm (va_wsS RX6 55 yX6_isWithin wsX6_isWithin) := goodIn_app (goodIn_of _ (by decide +kernel)) ggX6_farm_X6_isWithin
set_option maxRecDepth 20000 in
theorem ggX6_farm_X6_finding : GoodIn wsX6_farm wsX6_finding := goodIn_r _ [12, 13, 14, 32, 33, 34, 35, 36, 37, 38, 39] rfl (by decide +kernel)
set_option maxRecDepth 20000 in
theorem gX6_farm_X6_finding : GoodIn wsX6_farm (wsV RX6 59 RX6 yX6_finding wsX6_finding) := goodIn_app (goodIn_of _ (by decide +kernel)) ggX6_farm_X6_finding
set_option maxRecDepth 20000 in
theorem ggX6_farm_X1_leastOfFarm : GoodIn wsX6_farm wsX1_leastOfFarm := goodIn_r _ [18] rfl (by decide +kernel)
set_option maxRecDepth 20000 in
theorem gX6_farm_X1_leastOfFarm : GoodIn wsX6_farm (va_wsS RX6 63 yX1_leastOfFarm wsX1_leastOfFarm) := goodIn_app (goodIn_of _ (by decide +kernel)) ggX6_farm_X1_leastOfFarm
set_option maxRecDepth 20000 in
theorem ggX6_farm_X1_mostOfFarm : GoodIn wsX6_farm wsX1_mostOfFarm := goodIn_r _ [22, 23, 40, 41, 42, 43, 44, 45, 46, 47, 48, 49, 50, 51] rfl (by decide +kernel)
set_option maxRecDepth 20000 in
theorem gX6_farm_X1_mostOfFarm : GoodIn wsX6_farm (wsV RX6 66 RX1 yX1_mostOfFarm wsX1_mostOfFarm) := goodIn_app (goodIn_of _ (by decide +kernel)) ggX6_farm_X1_mostOfFarm
set_option maxRecDepth 20000 in
theorem ggX6_farm_X1_rowOfFarms : GoodIn wsX6_farm wsX1_rowOfFarms := goodIn_r _ [27, 28, 29, 30, 31, 40, 41, 42, 43, 44, 45, 46, 47, 48, 49, 50, 51] rfl (by decide +kernel)
set_option maxRecDepth 20000 in
theorem gX6_farm_X1_rowOfFarms : GoodIn wsX6_farm (wsV RX6 69 RX1 yX1_rowOfFarms wsX1_rowOfFarms) := goodIn_app (goodIn_of _ (by decide +kernel)) ggX6_farm_X1_rowOfFarms
theorem dX6_farm_0 : decode cX6_farm 0 = .ok (.iload_n 1, 1) := by decide +kernel
theorem dX6_farm_1 : decode cX6_farm 1 = .ok (.invokestatic 51, 3) := by decide +kernel
theorem dX6_farm_4 : decode cX6_farm 4 = .ok (.ifCond .eq 12, 3) := by decide +kernel
theorem dX6_farm_7 : decode cX6_farm 7 = .ok (.iload_n 2, 1) := by decide +kernel
theorem dX6_farm_8 : decode cX6_farm 8 = .ok (.iconst 0, 1) := by decide +kernel
theorem dX6_farm_9 : decode cX6_farm 9 = .ok (.iconst 3, 1) := by decide +kernel
theorem dX6_farm_10 : decode cX6_farm 10 = .ok (.invokestatic 55, 3) := by decide +kernel
theorem dX6_farm_13 : decode cX6_farm 13 = .ok (.ifCond .ne 9, 3) := by decide +kernel
theorem dX6_farm_16 : decode cX6_farm 16 = .ok (.aload_n 0, 1) := by decide +kernel
theorem dX6_farm_17 : decode cX6_farm 17 = .ok (.iconst 0, 1) := by decide +kernel
theorem dX6_farm_18 : decode cX6_farm 18 = .ok (.invokevirtual 59, 3) := by decide +kernel
theorem dX6_farm_21 : decode cX6_farm 21 = .ok (.ireturn, 1) := by decide +kernel
theorem dX6_farm_22 : decode cX6_farm 22 = .ok (.iload_n 3, 1) := by decide +kernel
theorem dX6_farm_23 : decode cX6_farm 23 = .ok (.iload_n 2, 1) := by decide +kernel
theorem dX6_farm_24 : decode cX6_farm 24 = .ok (.invokestatic 63, 3) := by decide +kernel
theorem dX6_farm_27 : decode cX6_farm 27 = .ok (.aload_n 0, 1) := by decide +kernel
theorem dX6_farm_28 : decode cX6_farm 28 = .ok (.getfield 16, 3) := by decide +kernel
theorem dX6_farm_31 : decode cX6_farm 31 = .ok (.iload_n 2, 1) := by decide +kernel
theorem dX6_farm_32 : decode cX6_farm 32 = .ok (.invokevirtual 66, 3) := by decide +kernel
theorem dX6_farm_35 : decode cX6_farm 35 = .ok (.invokestatic 55, 3) := by decide +kernel
theorem dX6_farm_38 : decode cX6_farm 38 = .ok (.ifCond .ne 9, 3) := by decide +kernel
theorem dX6_farm_41 : decode cX6_farm 41 = .ok (.aload_n 0, 1) := by decide +kernel
theorem dX6_farm_42 : decode cX6_farm 42 = .ok (.iconst 0, 1) := by decide +kernel
theorem dX6_farm_43 : decode cX6_farm 43 = .ok (.invokevirtual 59, 3) := by decide +kernel
theorem dX6_farm_46 : decode cX6_farm 46 = .ok (.ireturn, 1) := by decide +kernel
theorem dX6_farm_47 : decode cX6_farm 47 = .ok (.aload_n 0, 1) := by decide +kernel
theorem dX6_farm_48 : decode cX6_farm 48 = .ok (.getfield 16, 3) := by decide +kernel
theorem dX6_farm_51 : decode cX6_farm 51 = .ok (.iload_n 2, 1) := by decide +kernel
theorem dX6_farm_52 : decode cX6_farm 52 = .ok (.invokevirtual 69, 3) := by decide +kernel
theorem dX6_farm_55 : decode cX6_farm 55 = .ok (.astore 4, 2) := by decide +kernel
theorem dX6_farm_57 : decode cX6_farm 57 = .ok (.aload 4, 2) := by decide +kernel
theorem dX6_farm_59 : decode cX6_farm 59 = .ok (.iload_n 1, 1) := by decide +kernel
theorem dX6_farm_60 : decode cX6_farm 60 = .ok (.iaload, 1) := by decide +kernel
theorem dX6_farm_61 : decode cX6_farm 61 = .ok (.istore 5, 2) := by decide +kernel
theorem dX6_farm_63 : decode cX6_farm 63 = .ok (.aload 4, 2) := by decide +kernel
theorem dX6_farm_65 : decode cX6_farm 65 = .ok (.iload_n 1, 1) := by decide +kernel
theorem dX6_farm_66 : decode cX6_farm 66 = .ok (.iload_n 3, 1) := by decide +kernel
theorem dX6_farm_67 : decode cX6_farm 67 = .ok (.iastore, 1) := by decide +kernel
theorem dX6_farm_68 : decode cX6_farm 68 = .ok (.iload 5, 2) := by decide +kernel
theorem dX6_farm_70 : decode cX6_farm 70 = .ok (.ireturn, 1) := by decide +kernel
set_option maxRecDepth 20000 in
theorem ggX6_farmOf_X6_isFarm : GoodIn wsX6_farmOf wsX6_isFarm := goodIn_r _ [5, 6, 7, 4, 8] rfl (by decide +kernel)
set_option maxRecDepth 20000 in
theorem gX6_farmOf_X6_isFarm : GoodIn wsX6_farmOf (va_wsS RX6 51 yX6_isFarm wsX6_isFarm) := goodIn_app (goodIn_of _ (by decide +kernel)) ggX6_farmOf_X6_isFarm
set_option maxRecDepth 20000 in
theorem ggX6_farmOf_X6_isWithin : GoodIn wsX6_farmOf wsX6_isWithin := goodIn_r _ [8] rfl (by decide +kernel)
set_option maxRecDepth 20000 in
theorem gX6_farmOf_X6_isWithin : GoodIn wsX6_farmOf (va_wsS RX6 55 yX6_isWithin wsX6_isWithin) := goodIn_app (goodIn_of _ (by decide +kernel)) ggX6_farmOf_X6_isWithin
set_option maxRecDepth 20000 in
theorem ggX6_farmOf_X6_finding : GoodIn wsX6_farmOf wsX6_finding := goodIn_r _ [12, 13, 14, 24, 25, 26, 27, 28, 29, 30, 31] rfl (by decide +kernel)
set_option maxRecDepth 20000 in
theorem gX6_farmOf_X6_finding : GoodIn wsX6_farmOf (wsV RX6 59 RX6 yX6_finding wsX6_finding) := goodIn_app (goodIn_of _ (by decide +kernel)) ggX6_farmOf_X6_finding
set_option maxRecDepth 20000 in
theorem ggX6_farmOf_X1_rowOfFarms : GoodIn wsX6_farmOf wsX1_rowOfFarms := goodIn_r _ [19, 20, 21, 22, 23, 32, 33, 34, 35, 36, 37, 38, 39, 40, 41, 42, 43] rfl (by decide +kernel)
set_option maxRecDepth 20000 in
theorem gX6_farmOf_X1_rowOfFarms : GoodIn wsX6_farmOf (wsV RX6 69 RX1 yX1_rowOfFarms wsX1_rowOfFarms) := goodIn_app (goodIn_of _ (by decide +kernel)) ggX6_farmOf_X1_rowOfFarms
theorem dX6_farmOf_0 : decode cX6_farmOf 0 = .ok (.iload_n 1, 1) := by decide +kernel
theorem dX6_farmOf_1 : decode cX6_farmOf 1 = .ok (.invokestatic 51, 3) := by decide +kernel
theorem dX6_farmOf_4 : decode cX6_farmOf 4 = .ok (.ifCond .eq 12, 3) := by decide +kernel
theorem dX6_farmOf_7 : decode cX6_farmOf 7 = .ok (.iload_n 2, 1) := by decide +kernel
theorem dX6_farmOf_8 : decode cX6_farmOf 8 = .ok (.iconst 0, 1) := by decide +kernel
theorem dX6_farmOf_9 : decode cX6_farmOf 9 = .ok (.iconst 3, 1) := by decide +kernel
theorem dX6_farmOf_10 : decode cX6_farmOf 10 = .ok (.invokestatic 55, 3) := by decide +kernel
theorem dX6_farmOf_13 : decode cX6_farmOf 13 = .ok (.ifCond .ne 9, 3) := by decide +kernel
theorem dX6_farmOf_16 : decode cX6_farmOf 16 = .ok (.aload_n 0, 1) := by decide +kernel
theorem dX6_farmOf_17 : decode cX6_farmOf 17 = .ok (.iconst 0, 1) := by decide +kernel
theorem dX6_farmOf_18 : decode cX6_farmOf 18 = .ok (.invokevirtual 59, 3) := by decide +kernel
theorem dX6_farmOf_21 : decode cX6_farmOf 21 = .ok (.ireturn, 1) := by decide +kernel
theorem dX6_farmOf_22 : decode cX6_farmOf 22 = .ok (.aload_n 0, 1) := by decide +kernel
theorem dX6_farmOf_23 : decode cX6_farmOf 23 = .ok (.getfield 16, 3) := by decide +kernel
theorem dX6_farmOf_26 : decode cX6_farmOf 26 = .ok (.iload_n 2, 1) := by decide +kernel
theorem dX6_farmOf_27 : decode cX6_farmOf 27 = .ok (.invokevirtual 69, 3) := by decide +kernel
theorem dX6_farmOf_30 : decode cX6_farmOf 30 = .ok (.iload_n 1, 1) := by decide +kernel
theorem dX6_farmOf_31 : decode cX6_farmOf 31 = .ok (.iaload, 1) := by decide +kernel
theorem dX6_farmOf_32 : decode cX6_farmOf 32 = .ok (.ireturn, 1) := by decide +kernel
set_option maxRecDepth 20000 in
theorem ggX6_water_X6_isWithin : GoodIn wsX6_water wsX6_isWithin := goodIn_r _ [7] rfl (by decide +kernel)
set_option maxRecDepth 20000 in
theorem gX6_water_X6_isWithin : GoodIn wsX6_water (va_wsS RX6 55 yX6_isWithin wsX6_isWithin) := goodIn_app (goodIn_of _ (by decide +kernel)) ggX6_water_X6_isWithin
set_option maxRecDepth 20000 in
theorem ggX6_water_X6_finding : GoodIn wsX6_water wsX6_finding := goodIn_r _ [11, 12, 13, 14, 15, 16, 17, 18, 19, 20, 21] rfl (by decide +kernel)
set_option maxRecDepth 20000 in
theorem gX6_water_X6_finding : GoodIn wsX6_water (wsV RX6 59 RX6 yX6_finding wsX6_finding) := goodIn_app (goodIn_of _ (by decide +kernel)) ggX6_water_X6_finding
theorem dX6_water_0 : decode cX6_water 0 = .ok (.iload_n 1, 1) := by decide +kernel
theorem dX6_water_1 : decode cX6_water 1 = .ok (.iconst 0, 1) := by decide +kernel
theorem dX6_water_2 : decode cX6_water 2 = .ok (.iconst 2, 1) := by decide +kernel
theorem dX6_water_3 : decode cX6_water 3 = .ok (.invokestatic 55, 3) := by decide +kernel
theorem dX6_water_6 : decode cX6_water 6 = .ok (.ifCond .eq 16, 3) := by decide +kernel
theorem dX6_water_9 : decode cX6_water 9 = .ok (.iload_n 2, 1) := by decide +kernel
theorem dX6_water_10 : decode cX6_water 10 = .ok (.iconst 0, 1) := by decide +kernel
theorem dX6_water_11 : decode cX6_water 11 = .ok (.getstatic 73, 3) := by decide +kernel
theorem dX6_water_14 : decode cX6_water 14 = .ok (.iload_n 1, 1) := by decide +kernel
theorem dX6_water_15 : decode cX6_water 15 = .ok (.iaload, 1) := by decide +kernel
theorem dX6_water_16 : decode cX6_water 16 = .ok (.invokestatic 55, 3) := by decide +kernel
theorem dX6_water_19 : decode cX6_water 19 = .ok (.ifCond .ne 9, 3) := by decide +kernel
theorem dX6_water_22 : decode cX6_water 22 = .ok (.aload_n 0, 1) := by decide +kernel
theorem dX6_water_23 : decode cX6_water 23 = .ok (.iconst 0, 1) := by decide +kernel
theorem dX6_water_24 : decode cX6_water 24 = .ok (.invokevirtual 59, 3) := by decide +kernel
theorem dX6_water_27 : decode cX6_water 27 = .ok (.ireturn, 1) := by decide +kernel
theorem dX6_water_28 : decode cX6_water 28 = .ok (.aload_n 0, 1) := by decide +kernel
theorem dX6_water_29 : decode cX6_water 29 = .ok (.getfield 16, 3) := by decide +kernel
theorem dX6_water_32 : decode cX6_water 32 = .ok (.getfield 76, 3) := by decide +kernel
theorem dX6_water_35 : decode cX6_water 35 = .ok (.iload_n 1, 1) := by decide +kernel
theorem dX6_water_36 : decode cX6_water 36 = .ok (.iaload, 1) := by decide +kernel
theorem dX6_water_37 : decode cX6_water 37 = .ok (.istore_n 3, 1) := by decide +kernel
theorem dX6_water_38 : decode cX6_water 38 = .ok (.aload_n 0, 1) := by decide +kernel
theorem dX6_water_39 : decode cX6_water 39 = .ok (.getfield 16, 3) := by decide +kernel
theorem dX6_water_42 : decode cX6_water 42 = .ok (.getfield 76, 3) := by decide +kernel
theorem dX6_water_45 : decode cX6_water 45 = .ok (.iload_n 1, 1) := by decide +kernel
theorem dX6_water_46 : decode cX6_water 46 = .ok (.iload_n 2, 1) := by decide +kernel
theorem dX6_water_47 : decode cX6_water 47 = .ok (.iastore, 1) := by decide +kernel
theorem dX6_water_48 : decode cX6_water 48 = .ok (.iload_n 3, 1) := by decide +kernel
theorem dX6_water_49 : decode cX6_water 49 = .ok (.ireturn, 1) := by decide +kernel
set_option maxRecDepth 20000 in
theorem ggX6_person_X0_isKind : GoodIn wsX6_person wsX0_isKind := goodIn_r _ [6] rfl (by decide +kernel)
set_option maxRecDepth 20000 in
theorem gX6_person_X0_isKind : GoodIn wsX6_person (va_wsS RX6 79 yX0_isKind wsX0_isKind) := goodIn_app (goodIn_of _ (by decide +kernel)) ggX6_person_X0_isKind
set_option maxRecDepth 20000 in
theorem ggX6_person_X6_finding : GoodIn wsX6_person wsX6_finding := goodIn_r _ [11, 12, 13, 24, 25, 26, 27, 28, 29, 30, 31] rfl (by decide +kernel)
set_option maxRecDepth 20000 in
theorem gX6_person_X6_finding : GoodIn wsX6_person (wsV RX6 59 RX6 yX6_finding wsX6_finding) := goodIn_app (goodIn_of _ (by decide +kernel)) ggX6_person_X6_finding
set_option maxRecDepth 20000 in
theorem ggX6_person_X1_addPerson : GoodIn wsX6_person wsX1_addPerson := goodIn_r _ [18, 19, 20, 21, 22, 23, 32, 33, 34, 35, 36, 37, 38, 39, 40, 41, 42, 43] rfl (by decide +kernel)
set_option maxRecDepth 20000 in
theorem gX6_person_X1_addPerson : GoodIn wsX6_person (wsV RX6 88 RX1 yX1_addPerson wsX1_addPerson) := goodIn_app (goodIn_of _ (by decide +kernel)) ggX6_person_X1_addPerson
theorem dX6_person_0 : decode cX6_person 0 = .ok (.iload_n 1, 1) := by decide +kernel
theorem dX6_person_1 : decode cX6_person 1 = .ok (.invokestatic 79, 3) := by decide +kernel
theorem dX6_person_4 : decode cX6_person 4 = .ok (.ifCond .ne 9, 3) := by decide +kernel
theorem dX6_person_7 : decode cX6_person 7 = .ok (.aload_n 0, 1) := by decide +kernel
theorem dX6_person_8 : decode cX6_person 8 = .ok (.iconst 0, 1) := by decide +kernel
theorem dX6_person_9 : decode cX6_person 9 = .ok (.invokevirtual 59, 3) := by decide +kernel
theorem dX6_person_12 : decode cX6_person 12 = .ok (.ireturn, 1) := by decide +kernel
theorem dX6_person_13 : decode cX6_person 13 = .ok (.aload_n 0, 1) := by decide +kernel
theorem dX6_person_14 : decode cX6_person 14 = .ok (.getfield 16, 3) := by decide +kernel
theorem dX6_person_17 : decode cX6_person 17 = .ok (.getfield 84, 3) := by decide +kernel
theorem dX6_person_20 : decode cX6_person 20 = .ok (.bipush 8, 2) := by decide +kernel
theorem dX6_person_22 : decode cX6_person 22 = .ok (.if_icmp .lt 9, 3) := by decide +kernel
theorem dX6_person_25 : decode cX6_person 25 = .ok (.aload_n 0, 1) := by decide +kernel
theorem dX6_person_26 : decode cX6_person 26 = .ok (.iconst 1, 1) := by decide +kernel
theorem dX6_person_27 : decode cX6_person 27 = .ok (.invokevirtual 59, 3) := by decide +kernel
theorem dX6_person_30 : decode cX6_person 30 = .ok (.ireturn, 1) := by decide +kernel
theorem dX6_person_31 : decode cX6_person 31 = .ok (.aload_n 0, 1) := by decide +kernel
theorem dX6_person_32 : decode cX6_person 32 = .ok (.getfield 16, 3) := by decide +kernel
theorem dX6_person_35 : decode cX6_person 35 = .ok (.iload_n 1, 1) := by decide +kernel
theorem dX6_person_36 : decode cX6_person 36 = .ok (.invokevirtual 88, 3) := by decide +kernel
theorem dX6_person_39 : decode cX6_person 39 = .ok (.ireturn, 1) := by decide +kernel
set_option maxRecDepth 20000 in
theorem ggX6_of_X1_isThere : GoodIn wsX6_of wsX1_isThere := goodIn_r _ [6, 7, 66, 67, 68, 69, 70, 71, 72, 73, 74, 75, 76, 77] rfl (by decide +kernel)
set_option maxRecDepth 20000 in
theorem gX6_of_X1_isThere : GoodIn wsX6_of (wsV RX6 91 RX1 yX1_isThere wsX1_isThere) := goodIn_app (goodIn_of _ (by decide +kernel)) ggX6_of_X1_isThere
set_option maxRecDepth 20000 in
theorem ggX6_of_X6_isWithin : GoodIn wsX6_of wsX6_isWithin := goodIn_r _ [11] rfl (by decide +kernel)
set_option maxRecDepth 20000 in
theorem gX6_of_X6_isWithin : GoodIn wsX6_of (va_wsS RX6 55 yX6_isWithin wsX6_isWithin) := goodIn_app (goodIn_of _ (by decide +kernel)) ggX6_of_X6_isWithin
set_option maxRecDepth 20000 in
theorem ggX6_of_X6_finding : GoodIn wsX6_of wsX6_finding := goodIn_r _ [15, 16, 17, 58, 59, 60, 61, 62, 63, 64, 65] rfl (by decide +kernel)
set_option maxRecDepth 20000 in
theorem gX6_of_X6_finding : GoodIn wsX6_of (wsV RX6 59 RX6 yX6_finding wsX6_finding) := goodIn_app (goodIn_of _ (by decide +kernel)) ggX6_of_X6_finding
set_option maxRecDepth 20000 in
theorem ggX6_of_X1_deservedBy : GoodIn wsX6_of wsX1_deservedBy := goodIn_r _ [21, 22, 23, 24, 25, 26, 27, 28, 29, 30, 31, 32, 33, 34, 35, 36, 37, 38, 66, 67, 68, 69, 70, 71, 72, 73, 74, 75, 76, 77] rfl (by decide +kernel)
set_option maxRecDepth 20000 in
theorem gX6_of_X1_deservedBy : GoodIn wsX6_of (wsV RX6 94 RX1 yX1_deservedBy wsX1_deservedBy) := goodIn_app (goodIn_of _ (by decide +kernel)) ggX6_of_X1_deservedBy
set_option maxRecDepth 20000 in
theorem ggX6_of_X1_givenTo : GoodIn wsX6_of wsX1_givenTo := goodIn_r _ [42, 22, 23, 43, 44, 45, 46, 5, 47, 48, 49, 29, 30, 31, 50, 51, 52, 53, 24, 25, 26, 27, 28, 32, 33, 34, 35, 36, 37, 38, 66, 67, 68, 69, 70, 71, 72, 73, 74, 75, 76, 77] rfl (by decide +kernel)
set_option maxRecDepth 20000 in
theorem gX6_of_X1_givenTo : GoodIn wsX6_of (wsV RX6 97 RX1 yX1_givenTo wsX1_givenTo) := goodIn_app (goodIn_of _ (by decide +kernel)) ggX6_of_X1_givenTo
set_option maxRecDepth 20000 in
theorem ggX6_of_X1_rowOfPeople : GoodIn wsX6_of wsX1_rowOfPeople := goodIn_r _ [57, 23, 43, 50, 22, 66, 67, 68, 69, 70, 71, 72, 73, 74, 75, 76, 77] rfl (by decide +kernel)
set_option maxRecDepth 20000 in
theorem gX6_of_X1_rowOfPeople : GoodIn wsX6_of (wsV RX6 100 RX1 yX1_rowOfPeople wsX1_rowOfPeople) := goodIn_app (goodIn_of _ (by decide +kernel)) ggX6_of_X1_rowOfPeople
theorem dX6_of_0 : decode cX6_of 0 = .ok (.aload_n 0, 1) := by decide +kernel
theorem dX6_of_1 : decode cX6_of 1 = .ok (.getfield 16, 3) := by decide +kernel
theorem dX6_of_4 : decode cX6_of 4 = .ok (.iload_n 1, 1) := by decide +kernel
theorem dX6_of_5 : decode cX6_of 5 = .ok (.invokevirtual 91, 3) := by decide +kernel
theorem dX6_of_8 : decode cX6_of 8 = .ok (.ifCond .eq 12, 3) := by decide +kernel
theorem dX6_of_11 : decode cX6_of 11 = .ok (.iload_n 2, 1) := by decide +kernel
theorem dX6_of_12 : decode cX6_of 12 = .ok (.iconst 0, 1) := by decide +kernel
theorem dX6_of_13 : decode cX6_of 13 = .ok (.iconst 5, 1) := by decide +kernel
theorem dX6_of_14 : decode cX6_of 14 = .ok (.invokestatic 55, 3) := by decide +kernel
theorem dX6_of_17 : decode cX6_of 17 = .ok (.ifCond .ne 9, 3) := by decide +kernel
theorem dX6_of_20 : decode cX6_of 20 = .ok (.aload_n 0, 1) := by decide +kernel
theorem dX6_of_21 : decode cX6_of 21 = .ok (.iconst 0, 1) := by decide +kernel
theorem dX6_of_22 : decode cX6_of 22 = .ok (.invokevirtual 59, 3) := by decide +kernel
theorem dX6_of_25 : decode cX6_of 25 = .ok (.ireturn, 1) := by decide +kernel
theorem dX6_of_26 : decode cX6_of 26 = .ok (.iload_n 2, 1) := by decide +kernel
theorem dX6_of_27 : decode cX6_of 27 = .ok (.iconst 4, 1) := by decide +kernel
theorem dX6_of_28 : decode cX6_of 28 = .ok (.if_icmp .ne 12, 3) := by decide +kernel
theorem dX6_of_31 : decode cX6_of 31 = .ok (.aload_n 0, 1) := by decide +kernel
theorem dX6_of_32 : decode cX6_of 32 = .ok (.getfield 16, 3) := by decide +kernel
theorem dX6_of_35 : decode cX6_of 35 = .ok (.iload_n 1, 1) := by decide +kernel
theorem dX6_of_36 : decode cX6_of 36 = .ok (.invokevirtual 94, 3) := by decide +kernel
theorem dX6_of_39 : decode cX6_of 39 = .ok (.ireturn, 1) := by decide +kernel
theorem dX6_of_40 : decode cX6_of 40 = .ok (.iload_n 2, 1) := by decide +kernel
theorem dX6_of_41 : decode cX6_of 41 = .ok (.iconst 5, 1) := by decide +kernel
theorem dX6_of_42 : decode cX6_of 42 = .ok (.if_icmp .ne 12, 3) := by decide +kernel
theorem dX6_of_45 : decode cX6_of 45 = .ok (.aload_n 0, 1) := by decide +kernel
theorem dX6_of_46 : decode cX6_of 46 = .ok (.getfield 16, 3) := by decide +kernel
theorem dX6_of_49 : decode cX6_of 49 = .ok (.iload_n 1, 1) := by decide +kernel
theorem dX6_of_50 : decode cX6_of 50 = .ok (.invokevirtual 97, 3) := by decide +kernel
theorem dX6_of_53 : decode cX6_of 53 = .ok (.ireturn, 1) := by decide +kernel
theorem dX6_of_54 : decode cX6_of 54 = .ok (.aload_n 0, 1) := by decide +kernel
theorem dX6_of_55 : decode cX6_of 55 = .ok (.getfield 16, 3) := by decide +kernel
theorem dX6_of_58 : decode cX6_of 58 = .ok (.iload_n 2, 1) := by decide +kernel
theorem dX6_of_59 : decode cX6_of 59 = .ok (.invokevirtual 100, 3) := by decide +kernel
theorem dX6_of_62 : decode cX6_of 62 = .ok (.iload_n 1, 1) := by decide +kernel
theorem dX6_of_63 : decode cX6_of 63 = .ok (.iaload, 1) := by decide +kernel
theorem dX6_of_64 : decode cX6_of 64 = .ok (.ireturn, 1) := by decide +kernel
set_option maxRecDepth 20000 in
theorem ggX6_set_X1_isThere : GoodIn wsX6_set wsX1_isThere := goodIn_r _ [6, 7, 38, 39, 40, 41, 42, 43, 44, 45, 46, 47, 48, 49] rfl (by decide +kernel)
set_option maxRecDepth 20000 in
theorem gX6_set_X1_isThere : GoodIn wsX6_set (wsV RX6 91 RX1 yX1_isThere wsX1_isThere) := goodIn_app (goodIn_of _ (by decide +kernel)) ggX6_set_X1_isThere
set_option maxRecDepth 20000 in
theorem ggX6_set_X6_isWithin : GoodIn wsX6_set wsX6_isWithin := goodIn_r _ [11] rfl (by decide +kernel)
set_option maxRecDepth 20000 in
theorem gX6_set_X6_isWithin : GoodIn wsX6_set (va_wsS RX6 55 yX6_isWithin wsX6_isWithin) := goodIn_app (goodIn_of _ (by decide +kernel)) ggX6_set_X6_isWithin
set_option maxRecDepth 20000 in
theorem ggX6_set_X6_finding : GoodIn wsX6_set wsX6_finding := goodIn_r _ [15, 16, 17, 30, 31, 32, 33, 34, 35, 36, 37] rfl (by decide +kernel)
set_option maxRecDepth 20000 in
theorem gX6_set_X6_finding : GoodIn wsX6_set (wsV RX6 59 RX6 yX6_finding wsX6_finding) := goodIn_app (goodIn_of _ (by decide +kernel)) ggX6_set_X6_finding
set_option maxRecDepth 20000 in
theorem ggX6_set_X1_mostOfPerson : GoodIn wsX6_set wsX1_mostOfPerson := goodIn_r _ [21, 7, 38, 39, 40, 41, 42, 43, 44, 45, 46, 47, 48, 49] rfl (by decide +kernel)
set_option maxRecDepth 20000 in
theorem gX6_set_X1_mostOfPerson : GoodIn wsX6_set (wsV RX6 103 RX1 yX1_mostOfPerson wsX1_mostOfPerson) := goodIn_app (goodIn_of _ (by decide +kernel)) ggX6_set_X1_mostOfPerson
set_option maxRecDepth 20000 in
theorem ggX6_set_X1_rowOfPeople : GoodIn wsX6_set wsX1_rowOfPeople := goodIn_r _ [25, 26, 27, 28, 29, 38, 39, 40, 41, 42, 43, 44, 45, 46, 47, 48, 49] rfl (by decide +kernel)
set_option maxRecDepth 20000 in
theorem gX6_set_X1_rowOfPeople : GoodIn wsX6_set (wsV RX6 100 RX1 yX1_rowOfPeople wsX1_rowOfPeople) := goodIn_app (goodIn_of _ (by decide +kernel)) ggX6_set_X1_rowOfPeople
theorem dX6_set_0 : decode cX6_set 0 = .ok (.aload_n 0, 1) := by decide +kernel
theorem dX6_set_1 : decode cX6_set 1 = .ok (.getfield 16, 3) := by decide +kernel
theorem dX6_set_4 : decode cX6_set 4 = .ok (.iload_n 1, 1) := by decide +kernel
theorem dX6_set_5 : decode cX6_set 5 = .ok (.invokevirtual 91, 3) := by decide +kernel
theorem dX6_set_8 : decode cX6_set 8 = .ok (.ifCond .eq 12, 3) := by decide +kernel
theorem dX6_set_11 : decode cX6_set 11 = .ok (.iload_n 2, 1) := by decide +kernel
theorem dX6_set_12 : decode cX6_set 12 = .ok (.iconst 1, 1) := by decide +kernel
theorem dX6_set_13 : decode cX6_set 13 = .ok (.iconst 3, 1) := by decide +kernel
theorem dX6_set_14 : decode cX6_set 14 = .ok (.invokestatic 55, 3) := by decide +kernel
theorem dX6_set_17 : decode cX6_set 17 = .ok (.ifCond .ne 9, 3) := by decide +kernel
theorem dX6_set_20 : decode cX6_set 20 = .ok (.aload_n 0, 1) := by decide +kernel
theorem dX6_set_21 : decode cX6_set 21 = .ok (.iconst 0, 1) := by decide +kernel
theorem dX6_set_22 : decode cX6_set 22 = .ok (.invokevirtual 59, 3) := by decide +kernel
theorem dX6_set_25 : decode cX6_set 25 = .ok (.ireturn, 1) := by decide +kernel
theorem dX6_set_26 : decode cX6_set 26 = .ok (.iload_n 3, 1) := by decide +kernel
theorem dX6_set_27 : decode cX6_set 27 = .ok (.iconst 0, 1) := by decide +kernel
theorem dX6_set_28 : decode cX6_set 28 = .ok (.aload_n 0, 1) := by decide +kernel
theorem dX6_set_29 : decode cX6_set 29 = .ok (.getfield 16, 3) := by decide +kernel
theorem dX6_set_32 : decode cX6_set 32 = .ok (.iload_n 2, 1) := by decide +kernel
theorem dX6_set_33 : decode cX6_set 33 = .ok (.invokevirtual 103, 3) := by decide +kernel
theorem dX6_set_36 : decode cX6_set 36 = .ok (.invokestatic 55, 3) := by decide +kernel
theorem dX6_set_39 : decode cX6_set 39 = .ok (.ifCond .ne 9, 3) := by decide +kernel
theorem dX6_set_42 : decode cX6_set 42 = .ok (.aload_n 0, 1) := by decide +kernel
theorem dX6_set_43 : decode cX6_set 43 = .ok (.iconst 0, 1) := by decide +kernel
theorem dX6_set_44 : decode cX6_set 44 = .ok (.invokevirtual 59, 3) := by decide +kernel
theorem dX6_set_47 : decode cX6_set 47 = .ok (.ireturn, 1) := by decide +kernel
theorem dX6_set_48 : decode cX6_set 48 = .ok (.aload_n 0, 1) := by decide +kernel
theorem dX6_set_49 : decode cX6_set 49 = .ok (.getfield 16, 3) := by decide +kernel
theorem dX6_set_52 : decode cX6_set 52 = .ok (.iload_n 2, 1) := by decide +kernel
theorem dX6_set_53 : decode cX6_set 53 = .ok (.invokevirtual 100, 3) := by decide +kernel
theorem dX6_set_56 : decode cX6_set 56 = .ok (.astore 4, 2) := by decide +kernel
theorem dX6_set_58 : decode cX6_set 58 = .ok (.aload 4, 2) := by decide +kernel
theorem dX6_set_60 : decode cX6_set 60 = .ok (.iload_n 1, 1) := by decide +kernel
theorem dX6_set_61 : decode cX6_set 61 = .ok (.iaload, 1) := by decide +kernel
theorem dX6_set_62 : decode cX6_set 62 = .ok (.istore 5, 2) := by decide +kernel
theorem dX6_set_64 : decode cX6_set 64 = .ok (.aload 4, 2) := by decide +kernel
theorem dX6_set_66 : decode cX6_set 66 = .ok (.iload_n 1, 1) := by decide +kernel
theorem dX6_set_67 : decode cX6_set 67 = .ok (.iload_n 3, 1) := by decide +kernel
theorem dX6_set_68 : decode cX6_set 68 = .ok (.iastore, 1) := by decide +kernel
theorem dX6_set_69 : decode cX6_set 69 = .ok (.iload 5, 2) := by decide +kernel
theorem dX6_set_71 : decode cX6_set 71 = .ok (.ireturn, 1) := by decide +kernel
set_option maxRecDepth 20000 in
theorem ggX6_turn_X1_isThere : GoodIn wsX6_turn wsX1_isThere := goodIn_r _ [7, 8, 28, 29, 30, 31, 32, 33, 34, 35, 36, 37, 38, 39] rfl (by decide +kernel)
set_option maxRecDepth 20000 in
theorem gX6_turn_X1_isThere : GoodIn wsX6_turn (wsV RX6 91 RX1 yX1_isThere wsX1_isThere) := goodIn_app (goodIn_of _ (by decide +kernel)) ggX6_turn_X1_isThere
set_option maxRecDepth 20000 in
theorem ggX6_turn_X0_isKind : GoodIn wsX6_turn wsX0_isKind := goodIn_r _ [12] rfl (by decide +kernel)
set_option maxRecDepth 20000 in
theorem gX6_turn_X0_isKind : GoodIn wsX6_turn (va_wsS RX6 79 yX0_isKind wsX0_isKind) := goodIn_app (goodIn_of _ (by decide +kernel)) ggX6_turn_X0_isKind
set_option maxRecDepth 20000 in
theorem ggX6_turn_X6_finding : GoodIn wsX6_turn wsX6_finding := goodIn_r _ [17, 18, 19, 20, 21, 22, 23, 24, 25, 26, 27] rfl (by decide +kernel)
set_option maxRecDepth 20000 in
theorem gX6_turn_X6_finding : GoodIn wsX6_turn (wsV RX6 59 RX6 yX6_finding wsX6_finding) := goodIn_app (goodIn_of _ (by decide +kernel)) ggX6_turn_X6_finding
theorem dX6_turn_0 : decode cX6_turn 0 = .ok (.aload_n 0, 1) := by decide +kernel
theorem dX6_turn_1 : decode cX6_turn 1 = .ok (.getfield 16, 3) := by decide +kernel
theorem dX6_turn_4 : decode cX6_turn 4 = .ok (.iload_n 1, 1) := by decide +kernel
theorem dX6_turn_5 : decode cX6_turn 5 = .ok (.invokevirtual 91, 3) := by decide +kernel
theorem dX6_turn_8 : decode cX6_turn 8 = .ok (.ifCond .eq 10, 3) := by decide +kernel
theorem dX6_turn_11 : decode cX6_turn 11 = .ok (.iload_n 2, 1) := by decide +kernel
theorem dX6_turn_12 : decode cX6_turn 12 = .ok (.invokestatic 79, 3) := by decide +kernel
theorem dX6_turn_15 : decode cX6_turn 15 = .ok (.ifCond .ne 9, 3) := by decide +kernel
theorem dX6_turn_18 : decode cX6_turn 18 = .ok (.aload_n 0, 1) := by decide +kernel
theorem dX6_turn_19 : decode cX6_turn 19 = .ok (.iconst 0, 1) := by decide +kernel
theorem dX6_turn_20 : decode cX6_turn 20 = .ok (.invokevirtual 59, 3) := by decide +kernel
theorem dX6_turn_23 : decode cX6_turn 23 = .ok (.ireturn, 1) := by decide +kernel
theorem dX6_turn_24 : decode cX6_turn 24 = .ok (.aload_n 0, 1) := by decide +kernel
theorem dX6_turn_25 : decode cX6_turn 25 = .ok (.getfield 16, 3) := by decide +kernel
theorem dX6_turn_28 : decode cX6_turn 28 = .ok (.getfield 106, 3) := by decide +kernel
theorem dX6_turn_31 : decode cX6_turn 31 = .ok (.iload_n 1, 1) := by decide +kernel
theorem dX6_turn_32 : decode cX6_turn 32 = .ok (.iaload, 1) := by decide +kernel
theorem dX6_turn_33 : decode cX6_turn 33 = .ok (.istore_n 3, 1) := by decide +kernel
theorem dX6_turn_34 : decode cX6_turn 34 = .ok (.aload_n 0, 1) := by decide +kernel
theorem dX6_turn_35 : decode cX6_turn 35 = .ok (.getfield 16, 3) := by decide +kernel
theorem dX6_turn_38 : decode cX6_turn 38 = .ok (.getfield 106, 3) := by decide +kernel
theorem dX6_turn_41 : decode cX6_turn 41 = .ok (.iload_n 1, 1) := by decide +kernel
theorem dX6_turn_42 : decode cX6_turn 42 = .ok (.iload_n 2, 1) := by decide +kernel
theorem dX6_turn_43 : decode cX6_turn 43 = .ok (.iastore, 1) := by decide +kernel
theorem dX6_turn_44 : decode cX6_turn 44 = .ok (.iload_n 3, 1) := by decide +kernel
theorem dX6_turn_45 : decode cX6_turn 45 = .ok (.ireturn, 1) := by decide +kernel
set_option maxRecDepth 20000 in
theorem ggX6_as_X1_isThere : GoodIn wsX6_as wsX1_isThere := goodIn_r _ [8, 9, 34, 35, 36, 37, 38, 39, 40, 41, 42, 43, 44, 45] rfl (by decide +kernel)
set_option maxRecDepth 20000 in
theorem gX6_as_X1_isThere : GoodIn wsX6_as (wsV RX6 91 RX1 yX1_isThere wsX1_isThere) := goodIn_app (goodIn_of _ (by decide +kernel)) ggX6_as_X1_isThere
set_option maxRecDepth 20000 in
theorem ggX6_as_X0_isKind : GoodIn wsX6_as wsX0_isKind := goodIn_r _ [13] rfl (by decide +kernel)
set_option maxRecDepth 20000 in
theorem gX6_as_X0_isKind : GoodIn wsX6_as (va_wsS RX6 79 yX0_isKind wsX0_isKind) := goodIn_app (goodIn_of _ (by decide +kernel)) ggX6_as_X0_isKind
set_option maxRecDepth 20000 in
theorem ggX6_as_X6_finding : GoodIn wsX6_as wsX6_finding := goodIn_r _ [18, 19, 20, 26, 27, 28, 29, 30, 31, 32, 33] rfl (by decide +kernel)
set_option maxRecDepth 20000 in
theorem gX6_as_X6_finding : GoodIn wsX6_as (wsV RX6 59 RX6 yX6_finding wsX6_finding) := goodIn_app (goodIn_of _ (by decide +kernel)) ggX6_as_X6_finding
set_option maxRecDepth 20000 in
theorem ggX6_as_X0_isUnder : GoodIn wsX6_as wsX0_isUnder := goodIn_r _ [23, 24, 25, 11, 12, 13] rfl (by decide +kernel)
set_option maxRecDepth 20000 in
theorem gX6_as_X0_isUnder : GoodIn wsX6_as (va_wsS RX6 109 yX0_isUnder wsX0_isUnder) := goodIn_app (goodIn_of _ (by decide +kernel)) ggX6_as_X0_isUnder
theorem dX6_as_0 : decode cX6_as 0 = .ok (.aload_n 0, 1) := by decide +kernel
theorem dX6_as_1 : decode cX6_as 1 = .ok (.getfield 16, 3) := by decide +kernel
theorem dX6_as_4 : decode cX6_as 4 = .ok (.iload_n 1, 1) := by decide +kernel
theorem dX6_as_5 : decode cX6_as 5 = .ok (.invokevirtual 91, 3) := by decide +kernel
theorem dX6_as_8 : decode cX6_as 8 = .ok (.ifCond .eq 10, 3) := by decide +kernel
theorem dX6_as_11 : decode cX6_as 11 = .ok (.iload_n 2, 1) := by decide +kernel
theorem dX6_as_12 : decode cX6_as 12 = .ok (.invokestatic 79, 3) := by decide +kernel
theorem dX6_as_15 : decode cX6_as 15 = .ok (.ifCond .ne 9, 3) := by decide +kernel
theorem dX6_as_18 : decode cX6_as 18 = .ok (.aload_n 0, 1) := by decide +kernel
theorem dX6_as_19 : decode cX6_as 19 = .ok (.iconst 0, 1) := by decide +kernel
theorem dX6_as_20 : decode cX6_as 20 = .ok (.invokevirtual 59, 3) := by decide +kernel
theorem dX6_as_23 : decode cX6_as 23 = .ok (.ireturn, 1) := by decide +kernel
theorem dX6_as_24 : decode cX6_as 24 = .ok (.aload_n 0, 1) := by decide +kernel
theorem dX6_as_25 : decode cX6_as 25 = .ok (.getfield 16, 3) := by decide +kernel
theorem dX6_as_28 : decode cX6_as 28 = .ok (.getfield 106, 3) := by decide +kernel
theorem dX6_as_31 : decode cX6_as 31 = .ok (.iload_n 1, 1) := by decide +kernel
theorem dX6_as_32 : decode cX6_as 32 = .ok (.iaload, 1) := by decide +kernel
theorem dX6_as_33 : decode cX6_as 33 = .ok (.iload_n 2, 1) := by decide +kernel
theorem dX6_as_34 : decode cX6_as 34 = .ok (.invokestatic 109, 3) := by decide +kernel
theorem dX6_as_37 : decode cX6_as 37 = .ok (.ifCond .ne 9, 3) := by decide +kernel
theorem dX6_as_40 : decode cX6_as 40 = .ok (.aload_n 0, 1) := by decide +kernel
theorem dX6_as_41 : decode cX6_as 41 = .ok (.iconst 2, 1) := by decide +kernel
theorem dX6_as_42 : decode cX6_as 42 = .ok (.invokevirtual 59, 3) := by decide +kernel
theorem dX6_as_45 : decode cX6_as 45 = .ok (.ireturn, 1) := by decide +kernel
theorem dX6_as_46 : decode cX6_as 46 = .ok (.aload_n 0, 1) := by decide +kernel
theorem dX6_as_47 : decode cX6_as 47 = .ok (.getfield 16, 3) := by decide +kernel
theorem dX6_as_50 : decode cX6_as 50 = .ok (.getfield 113, 3) := by decide +kernel
theorem dX6_as_53 : decode cX6_as 53 = .ok (.iload_n 1, 1) := by decide +kernel
theorem dX6_as_54 : decode cX6_as 54 = .ok (.iaload, 1) := by decide +kernel
theorem dX6_as_55 : decode cX6_as 55 = .ok (.ireturn, 1) := by decide +kernel
set_option maxRecDepth 20000 in
theorem ggX6_does_X1_isThere : GoodIn wsX6_does wsX1_isThere := goodIn_r _ [7, 8, 48, 49, 50, 51, 52, 53, 54, 55, 56, 57, 58, 59] rfl (by decide +kernel)
set_option maxRecDepth 20000 in
theorem gX6_does_X1_isThere : GoodIn wsX6_does (wsV RX6 91 RX1 yX1_isThere wsX1_isThere) := goodIn_app (goodIn_of _ (by decide +kernel)) ggX6_does_X1_isThere
set_option maxRecDepth 20000 in
theorem ggX6_does_X6_isWithin : GoodIn wsX6_does wsX6_isWithin := goodIn_r _ [12] rfl (by decide +kernel)
set_option maxRecDepth 20000 in
theorem gX6_does_X6_isWithin : GoodIn wsX6_does (va_wsS RX6 55 yX6_isWithin wsX6_isWithin) := goodIn_app (goodIn_of _ (by decide +kernel)) ggX6_does_X6_isWithin
set_option maxRecDepth 20000 in
theorem ggX6_does_X6_finding : GoodIn wsX6_does wsX6_finding := goodIn_r _ [16, 17, 18, 40, 41, 42, 43, 44, 45, 46, 47] rfl (by decide +kernel)
set_option maxRecDepth 20000 in
theorem gX6_does_X6_finding : GoodIn wsX6_does (wsV RX6 59 RX6 yX6_finding wsX6_finding) := goodIn_app (goodIn_of _ (by decide +kernel)) ggX6_does_X6_finding
set_option maxRecDepth 20000 in
theorem ggX6_does_X1_deservedBy : GoodIn wsX6_does wsX1_deservedBy := goodIn_r _ [22, 23, 24, 25, 26, 27, 28, 29, 30, 31, 32, 33, 34, 35, 36, 37, 38, 39, 48, 49, 50, 51, 52, 53, 54, 55, 56, 57, 58, 59] rfl (by decide +kernel)
set_option maxRecDepth 20000 in
theorem gX6_does_X1_deservedBy : GoodIn wsX6_does (wsV RX6 94 RX1 yX1_deservedBy wsX1_deservedBy) := goodIn_app (goodIn_of _ (by decide +kernel)) ggX6_does_X1_deservedBy
theorem dX6_does_0 : decode cX6_does 0 = .ok (.aload_n 0, 1) := by decide +kernel
theorem dX6_does_1 : decode cX6_does 1 = .ok (.getfield 16, 3) := by decide +kernel
theorem dX6_does_4 : decode cX6_does 4 = .ok (.iload_n 1, 1) := by decide +kernel
theorem dX6_does_5 : decode cX6_does 5 = .ok (.invokevirtual 91, 3) := by decide +kernel
theorem dX6_does_8 : decode cX6_does 8 = .ok (.ifCond .eq 13, 3) := by decide +kernel
theorem dX6_does_11 : decode cX6_does 11 = .ok (.iload_n 2, 1) := by decide +kernel
theorem dX6_does_12 : decode cX6_does 12 = .ok (.iconst 0, 1) := by decide +kernel
theorem dX6_does_13 : decode cX6_does 13 = .ok (.bipush 7, 2) := by decide +kernel
theorem dX6_does_15 : decode cX6_does 15 = .ok (.invokestatic 55, 3) := by decide +kernel
theorem dX6_does_18 : decode cX6_does 18 = .ok (.ifCond .ne 9, 3) := by decide +kernel
theorem dX6_does_21 : decode cX6_does 21 = .ok (.aload_n 0, 1) := by decide +kernel
theorem dX6_does_22 : decode cX6_does 22 = .ok (.iconst 0, 1) := by decide +kernel
theorem dX6_does_23 : decode cX6_does 23 = .ok (.invokevirtual 59, 3) := by decide +kernel
theorem dX6_does_26 : decode cX6_does 26 = .ok (.ireturn, 1) := by decide +kernel
theorem dX6_does_27 : decode cX6_does 27 = .ok (.aload_n 0, 1) := by decide +kernel
theorem dX6_does_28 : decode cX6_does 28 = .ok (.getfield 16, 3) := by decide +kernel
theorem dX6_does_31 : decode cX6_does 31 = .ok (.getfield 113, 3) := by decide +kernel
theorem dX6_does_34 : decode cX6_does 34 = .ok (.iload_n 1, 1) := by decide +kernel
theorem dX6_does_35 : decode cX6_does 35 = .ok (.dup2, 1) := by decide +kernel
theorem dX6_does_36 : decode cX6_does 36 = .ok (.iaload, 1) := by decide +kernel
theorem dX6_does_37 : decode cX6_does 37 = .ok (.iconst 1, 1) := by decide +kernel
theorem dX6_does_38 : decode cX6_does 38 = .ok (.iload_n 2, 1) := by decide +kernel
theorem dX6_does_39 : decode cX6_does 39 = .ok (.ishl, 1) := by decide +kernel
theorem dX6_does_40 : decode cX6_does 40 = .ok (.ior, 1) := by decide +kernel
theorem dX6_does_41 : decode cX6_does 41 = .ok (.iastore, 1) := by decide +kernel
theorem dX6_does_42 : decode cX6_does 42 = .ok (.aload_n 0, 1) := by decide +kernel
theorem dX6_does_43 : decode cX6_does 43 = .ok (.getfield 16, 3) := by decide +kernel
theorem dX6_does_46 : decode cX6_does 46 = .ok (.iload_n 1, 1) := by decide +kernel
theorem dX6_does_47 : decode cX6_does 47 = .ok (.invokevirtual 94, 3) := by decide +kernel
theorem dX6_does_50 : decode cX6_does 50 = .ok (.ireturn, 1) := by decide +kernel
set_option maxRecDepth 20000 in
theorem ggX6_pull_X1_isThere : GoodIn wsX6_pull wsX1_isThere := goodIn_r _ [6, 7, 62, 63, 64, 65, 66, 67, 68, 69, 70, 71, 72, 73] rfl (by decide +kernel)
set_option maxRecDepth 20000 in
theorem gX6_pull_X1_isThere : GoodIn wsX6_pull (wsV RX6 91 RX1 yX1_isThere wsX1_isThere) := goodIn_app (goodIn_of _ (by decide +kernel)) ggX6_pull_X1_isThere
set_option maxRecDepth 20000 in
theorem ggX6_pull_X6_isFarm : GoodIn wsX6_pull wsX6_isFarm := goodIn_r _ [11, 12, 13, 10, 14] rfl (by decide +kernel)
set_option maxRecDepth 20000 in
theorem gX6_pull_X6_isFarm : GoodIn wsX6_pull (va_wsS RX6 51 yX6_isFarm wsX6_isFarm) := goodIn_app (goodIn_of _ (by decide +kernel)) ggX6_pull_X6_isFarm
set_option maxRecDepth 20000 in
theorem ggX6_pull_X6_finding : GoodIn wsX6_pull wsX6_finding := goodIn_r _ [18, 19, 20, 54, 55, 56, 57, 58, 59, 60, 61] rfl (by decide +kernel)
set_option maxRecDepth 20000 in
theorem gX6_pull_X6_finding : GoodIn wsX6_pull (wsV RX6 59 RX6 yX6_finding wsX6_finding) := goodIn_app (goodIn_of _ (by decide +kernel)) ggX6_pull_X6_finding
set_option maxRecDepth 20000 in
theorem ggX6_pull_X1_draw : GoodIn wsX6_pull wsX1_draw := goodIn_r _ [24, 25, 26, 27, 28, 29, 30, 31, 32, 33, 34, 35, 36, 37, 5, 38, 39, 40, 41, 42, 43, 44, 45, 46, 47, 48, 49, 50, 51, 52, 53, 62, 63, 64, 65, 66, 67, 68, 69, 70, 71, 72, 73] rfl (by decide +kernel)
set_option maxRecDepth 20000 in
theorem gX6_pull_X1_draw : GoodIn wsX6_pull (wsV RX6 116 RX1 yX1_draw wsX1_draw) := goodIn_app (goodIn_of _ (by decide +kernel)) ggX6_pull_X1_draw
theorem dX6_pull_0 : decode cX6_pull 0 = .ok (.aload_n 0, 1) := by decide +kernel
theorem dX6_pull_1 : decode cX6_pull 1 = .ok (.getfield 16, 3) := by decide +kernel
theorem dX6_pull_4 : decode cX6_pull 4 = .ok (.iload_n 1, 1) := by decide +kernel
theorem dX6_pull_5 : decode cX6_pull 5 = .ok (.invokevirtual 91, 3) := by decide +kernel
theorem dX6_pull_8 : decode cX6_pull 8 = .ok (.ifCond .eq 10, 3) := by decide +kernel
theorem dX6_pull_11 : decode cX6_pull 11 = .ok (.iload_n 2, 1) := by decide +kernel
theorem dX6_pull_12 : decode cX6_pull 12 = .ok (.invokestatic 51, 3) := by decide +kernel
theorem dX6_pull_15 : decode cX6_pull 15 = .ok (.ifCond .ne 9, 3) := by decide +kernel
theorem dX6_pull_18 : decode cX6_pull 18 = .ok (.aload_n 0, 1) := by decide +kernel
theorem dX6_pull_19 : decode cX6_pull 19 = .ok (.iconst 0, 1) := by decide +kernel
theorem dX6_pull_20 : decode cX6_pull 20 = .ok (.invokevirtual 59, 3) := by decide +kernel
theorem dX6_pull_23 : decode cX6_pull 23 = .ok (.ireturn, 1) := by decide +kernel
theorem dX6_pull_24 : decode cX6_pull 24 = .ok (.aload_n 0, 1) := by decide +kernel
theorem dX6_pull_25 : decode cX6_pull 25 = .ok (.getfield 16, 3) := by decide +kernel
theorem dX6_pull_28 : decode cX6_pull 28 = .ok (.iload_n 1, 1) := by decide +kernel
theorem dX6_pull_29 : decode cX6_pull 29 = .ok (.iload_n 2, 1) := by decide +kernel
theorem dX6_pull_30 : decode cX6_pull 30 = .ok (.invokevirtual 116, 3) := by decide +kernel
theorem dX6_pull_33 : decode cX6_pull 33 = .ok (.ireturn, 1) := by decide +kernel
set_option maxRecDepth 20000 in
theorem ggX6_days_X6_isWithin : GoodIn wsX6_days wsX6_isWithin := goodIn_r _ [7] rfl (by decide +kernel)
set_option maxRecDepth 20000 in
theorem gX6_days_X6_isWithin : GoodIn wsX6_days (va_wsS RX6 55 yX6_isWithin wsX6_isWithin) := goodIn_app (goodIn_of _ (by decide +kernel)) ggX6_days_X6_isWithin
set_option maxRecDepth 20000 in
theorem ggX6_days_X6_finding : GoodIn wsX6_days wsX6_finding := goodIn_r _ [11, 12, 13, 69, 70, 71, 72, 73, 74, 75, 76] rfl (by decide +kernel)
set_option maxRecDepth 20000 in
theorem gX6_days_X6_finding : GoodIn wsX6_days (wsV RX6 59 RX6 yX6_finding wsX6_finding) := goodIn_app (goodIn_of _ (by decide +kernel)) ggX6_days_X6_finding
set_option maxRecDepth 20000 in
theorem ggX6_days_X1_passDay : GoodIn wsX6_days wsX1_passDay := goodIn_r _ [18, 19, 20, 21, 22, 23, 24, 25, 26, 27, 28, 29, 30, 31, 32, 17, 33, 34, 35, 36, 37, 38, 39, 40, 41, 42, 43, 44, 45, 46, 47, 48, 49, 50, 51, 52, 53, 54, 55, 56, 57, 58, 59, 60, 61, 62, 63, 64, 65, 77, 78, 79, 80, 81, 82, 83, 84, 85, 86, 87, 88] rfl (by decide +kernel)
set_option maxRecDepth 20000 in
theorem gX6_days_X1_passDay : GoodIn wsX6_days (wsV RX6 123 RX1 yX1_passDay wsX1_passDay) := goodIn_app (goodIn_of _ (by decide +kernel)) ggX6_days_X1_passDay
set_option maxRecDepth 20000 in
theorem ggX6_days_X1_total : GoodIn wsX6_days wsX1_total := goodIn_r _ [68] rfl (by decide +kernel)
set_option maxRecDepth 20000 in
theorem gX6_days_X1_total : GoodIn wsX6_days (va_wsS RX6 129 yX1_total wsX1_total) := goodIn_app (goodIn_of _ (by decide +kernel)) ggX6_days_X1_total
theorem dX6_days_0 : decode cX6_days 0 = .ok (.iload_n 1, 1) := by decide +kernel
theorem dX6_days_1 : decode cX6_days 1 = .ok (.iconst 1, 1) := by decide +kernel
theorem dX6_days_2 : decode cX6_days 2 = .ok (.bipush 60, 2) := by decide +kernel
theorem dX6_days_4 : decode cX6_days 4 = .ok (.invokestatic 55, 3) := by decide +kernel
theorem dX6_days_7 : decode cX6_days 7 = .ok (.ifCond .ne 9, 3) := by decide +kernel
theorem dX6_days_10 : decode cX6_days 10 = .ok (.aload_n 0, 1) := by decide +kernel
theorem dX6_days_11 : decode cX6_days 11 = .ok (.iconst 0, 1) := by decide +kernel
theorem dX6_days_12 : decode cX6_days 12 = .ok (.invokevirtual 59, 3) := by decide +kernel
theorem dX6_days_15 : decode cX6_days 15 = .ok (.ireturn, 1) := by decide +kernel
theorem dX6_days_16 : decode cX6_days 16 = .ok (.aload_n 0, 1) := by decide +kernel
theorem dX6_days_17 : decode cX6_days 17 = .ok (.getfield 16, 3) := by decide +kernel
theorem dX6_days_20 : decode cX6_days 20 = .ok (.getfield 120, 3) := by decide +kernel
theorem dX6_days_23 : decode cX6_days 23 = .ok (.iload_n 1, 1) := by decide +kernel
theorem dX6_days_24 : decode cX6_days 24 = .ok (.iadd, 1) := by decide +kernel
theorem dX6_days_25 : decode cX6_days 25 = .ok (.sipush 9999, 3) := by decide +kernel
theorem dX6_days_28 : decode cX6_days 28 = .ok (.if_icmp .le 9, 3) := by decide +kernel
theorem dX6_days_31 : decode cX6_days 31 = .ok (.aload_n 0, 1) := by decide +kernel
theorem dX6_days_32 : decode cX6_days 32 = .ok (.iconst 4, 1) := by decide +kernel
theorem dX6_days_33 : decode cX6_days 33 = .ok (.invokevirtual 59, 3) := by decide +kernel
theorem dX6_days_36 : decode cX6_days 36 = .ok (.ireturn, 1) := by decide +kernel
theorem dX6_days_37 : decode cX6_days 37 = .ok (.iconst 0, 1) := by decide +kernel
theorem dX6_days_38 : decode cX6_days 38 = .ok (.istore_n 2, 1) := by decide +kernel
theorem dX6_days_39 : decode cX6_days 39 = .ok (.iload_n 2, 1) := by decide +kernel
theorem dX6_days_40 : decode cX6_days 40 = .ok (.iload_n 1, 1) := by decide +kernel
theorem dX6_days_41 : decode cX6_days 41 = .ok (.if_icmp .ge 16, 3) := by decide +kernel
theorem dX6_days_44 : decode cX6_days 44 = .ok (.aload_n 0, 1) := by decide +kernel
theorem dX6_days_45 : decode cX6_days 45 = .ok (.getfield 16, 3) := by decide +kernel
theorem dX6_days_48 : decode cX6_days 48 = .ok (.invokevirtual 123, 3) := by decide +kernel
theorem dX6_days_51 : decode cX6_days 51 = .ok (.iinc 2 1, 3) := by decide +kernel
theorem dX6_days_54 : decode cX6_days 54 = .ok (.goto (-15), 3) := by decide +kernel
theorem dX6_days_57 : decode cX6_days 57 = .ok (.aload_n 0, 1) := by decide +kernel
theorem dX6_days_58 : decode cX6_days 58 = .ok (.getfield 16, 3) := by decide +kernel
theorem dX6_days_61 : decode cX6_days 61 = .ok (.getfield 126, 3) := by decide +kernel
theorem dX6_days_64 : decode cX6_days 64 = .ok (.invokestatic 129, 3) := by decide +kernel
theorem dX6_days_67 : decode cX6_days 67 = .ok (.ireturn, 1) := by decide +kernel
set_option maxRecDepth 20000 in
theorem ggX6_now_X1_total : GoodIn wsX6_now wsX1_total := goodIn_r _ [10] rfl (by decide +kernel)
set_option maxRecDepth 20000 in
theorem gX6_now_X1_total : GoodIn wsX6_now (va_wsS RX6 129 yX1_total wsX1_total) := goodIn_app (goodIn_of _ (by decide +kernel)) ggX6_now_X1_total
set_option maxRecDepth 20000 in
theorem ggX6_now_X6_finding : GoodIn wsX6_now wsX6_finding := goodIn_r _ [15, 16, 17, 18, 19, 20, 21, 22, 23, 24, 25] rfl (by decide +kernel)
set_option maxRecDepth 20000 in
theorem gX6_now_X6_finding : GoodIn wsX6_now (wsV RX6 59 RX6 yX6_finding wsX6_finding) := goodIn_app (goodIn_of _ (by decide +kernel)) ggX6_now_X6_finding
theorem dX6_now_0 : decode cX6_now 0 = .ok (.iload_n 1, 1) := by decide +kernel
theorem dX6_now_1 : decode cX6_now 1 = .ok (.tableswitch 114 0 6 #[43, 51, 61, 71, 81, 92, 103], 43) := by decide +kernel
theorem dX6_now_44 : decode cX6_now 44 = .ok (.aload_n 0, 1) := by decide +kernel
theorem dX6_now_45 : decode cX6_now 45 = .ok (.getfield 16, 3) := by decide +kernel
theorem dX6_now_48 : decode cX6_now 48 = .ok (.getfield 120, 3) := by decide +kernel
theorem dX6_now_51 : decode cX6_now 51 = .ok (.ireturn, 1) := by decide +kernel
theorem dX6_now_52 : decode cX6_now 52 = .ok (.aload_n 0, 1) := by decide +kernel
theorem dX6_now_53 : decode cX6_now 53 = .ok (.getfield 16, 3) := by decide +kernel
theorem dX6_now_56 : decode cX6_now 56 = .ok (.getfield 76, 3) := by decide +kernel
theorem dX6_now_59 : decode cX6_now 59 = .ok (.iconst 0, 1) := by decide +kernel
theorem dX6_now_60 : decode cX6_now 60 = .ok (.iaload, 1) := by decide +kernel
theorem dX6_now_61 : decode cX6_now 61 = .ok (.ireturn, 1) := by decide +kernel
theorem dX6_now_62 : decode cX6_now 62 = .ok (.aload_n 0, 1) := by decide +kernel
theorem dX6_now_63 : decode cX6_now 63 = .ok (.getfield 16, 3) := by decide +kernel
theorem dX6_now_66 : decode cX6_now 66 = .ok (.getfield 76, 3) := by decide +kernel
theorem dX6_now_69 : decode cX6_now 69 = .ok (.iconst 1, 1) := by decide +kernel
