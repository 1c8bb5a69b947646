theorem dX7_set_74 : decode cX7_set 74 = .ok (.invokevirtual 75, 3) := by decide +kernel
theorem dX7_set_77 : decode cX7_set 77 = .ok (.goto 9, 3) := by decide +kernel
theorem dX7_set_80 : decode cX7_set 80 = .ok (.aload_n 0, 1) := by decide +kernel
theorem dX7_set_81 : decode cX7_set 81 = .ok (.ldc 48, 2) := by decide +kernel
theorem dX7_set_83 : decode cX7_set 83 = .ok (.invokevirtual 78, 3) := by decide +kernel
theorem dX7_set_86 : decode cX7_set 86 = .ok (.ireturn, 1) := by decide +kernel
set_option maxRecDepth 20000 in
theorem ggX7_turn_X7_isPerson : GoodIn wsX7_turn wsX7_isPerson := goodIn_r _ [6, 7, 8, 9, 5, 10, 27, 28, 29, 30, 31, 32, 33, 34, 35, 36, 37, 38, 39, 40, 41, 42, 43, 44] rfl (by decide +kernel)
set_option maxRecDepth 20000 in
theorem gX7_turn_X7_isPerson : GoodIn wsX7_turn (wsV RX7 64 RX7 yX7_isPerson wsX7_isPerson) := goodIn_app (goodIn_of _ (by decide +kernel)) ggX7_turn_X7_isPerson
set_option maxRecDepth 20000 in
theorem ggX7_turn_X7_isKind : GoodIn wsX7_turn wsX7_isKind := goodIn_r _ [13, 14, 8, 9, 5, 10] rfl (by decide +kernel)
set_option maxRecDepth 20000 in
theorem gX7_turn_X7_isKind : GoodIn wsX7_turn (va_wsS RX7 86 yX7_isKind wsX7_isKind) := goodIn_app (goodIn_of _ (by decide +kernel)) ggX7_turn_X7_isKind
set_option maxRecDepth 20000 in
theorem ggX7_turn_X7_spot : GoodIn wsX7_turn wsX7_spot := goodIn_r _ [17] rfl (by decide +kernel)
set_option maxRecDepth 20000 in
theorem gX7_turn_X7_spot : GoodIn wsX7_turn (va_wsS RX7 57 yX7_spot wsX7_spot) := goodIn_app (goodIn_of _ (by decide +kernel)) ggX7_turn_X7_spot
set_option maxRecDepth 20000 in
theorem ggX7_turn_X7_becomes : GoodIn wsX7_turn wsX7_becomes := goodIn_r _ [21, 7, 27, 28, 29, 30, 31, 32, 33, 34, 35, 36, 37, 38, 39, 40, 41, 42, 43, 44] rfl (by decide +kernel)
set_option maxRecDepth 20000 in
theorem gX7_turn_X7_becomes : GoodIn wsX7_turn (wsV RX7 75 RX7 yX7_becomes wsX7_becomes) := goodIn_app (goodIn_of _ (by decide +kernel)) ggX7_turn_X7_becomes
set_option maxRecDepth 20000 in
theorem ggX7_turn_X7_finds : GoodIn wsX7_turn wsX7_finds := goodIn_r _ [25, 26, 1, 27, 28, 29, 30, 31, 32, 33, 34, 35, 36, 37, 38, 39, 40, 41, 42, 43, 44] rfl (by decide +kernel)
set_option maxRecDepth 20000 in
theorem gX7_turn_X7_finds : GoodIn wsX7_turn (wsV RX7 78 RX7 yX7_finds wsX7_finds) := goodIn_app (goodIn_of _ (by decide +kernel)) ggX7_turn_X7_finds
theorem dX7_turn_0 : decode cX7_turn 0 = .ok (.aload_n 0, 1) := by decide +kernel
theorem dX7_turn_1 : decode cX7_turn 1 = .ok (.iload_n 1, 1) := by decide +kernel
theorem dX7_turn_2 : decode cX7_turn 2 = .ok (.invokevirtual 64, 3) := by decide +kernel
theorem dX7_turn_5 : decode cX7_turn 5 = .ok (.ifCond .eq 23, 3) := by decide +kernel
theorem dX7_turn_8 : decode cX7_turn 8 = .ok (.iload_n 2, 1) := by decide +kernel
theorem dX7_turn_9 : decode cX7_turn 9 = .ok (.invokestatic 86, 3) := by decide +kernel
theorem dX7_turn_12 : decode cX7_turn 12 = .ok (.ifCond .eq 16, 3) := by decide +kernel
theorem dX7_turn_15 : decode cX7_turn 15 = .ok (.aload_n 0, 1) := by decide +kernel
theorem dX7_turn_16 : decode cX7_turn 16 = .ok (.iload_n 1, 1) := by decide +kernel
theorem dX7_turn_17 : decode cX7_turn 17 = .ok (.iconst 0, 1) := by decide +kernel
theorem dX7_turn_18 : decode cX7_turn 18 = .ok (.invokestatic 57, 3) := by decide +kernel
theorem dX7_turn_21 : decode cX7_turn 21 = .ok (.iload_n 2, 1) := by decide +kernel
theorem dX7_turn_22 : decode cX7_turn 22 = .ok (.invokevirtual 75, 3) := by decide +kernel
theorem dX7_turn_25 : decode cX7_turn 25 = .ok (.goto 9, 3) := by decide +kernel
theorem dX7_turn_28 : decode cX7_turn 28 = .ok (.aload_n 0, 1) := by decide +kernel
theorem dX7_turn_29 : decode cX7_turn 29 = .ok (.ldc 48, 2) := by decide +kernel
theorem dX7_turn_31 : decode cX7_turn 31 = .ok (.invokevirtual 78, 3) := by decide +kernel
theorem dX7_turn_34 : decode cX7_turn 34 = .ok (.ireturn, 1) := by decide +kernel
theorem dX7_isUnder_0 : decode cX7_isUnder 0 = .ok (.iload_n 1, 1) := by decide +kernel
theorem dX7_isUnder_1 : decode cX7_isUnder 1 = .ok (.ifCond .eq 20, 3) := by decide +kernel
theorem dX7_isUnder_4 : decode cX7_isUnder 4 = .ok (.iload_n 0, 1) := by decide +kernel
theorem dX7_isUnder_5 : decode cX7_isUnder 5 = .ok (.iload_n 1, 1) := by decide +kernel
theorem dX7_isUnder_6 : decode cX7_isUnder 6 = .ok (.if_icmp .eq 15, 3) := by decide +kernel
theorem dX7_isUnder_9 : decode cX7_isUnder 9 = .ok (.iload_n 0, 1) := by decide +kernel
theorem dX7_isUnder_10 : decode cX7_isUnder 10 = .ok (.iconst 3, 1) := by decide +kernel
theorem dX7_isUnder_11 : decode cX7_isUnder 11 = .ok (.if_icmp .le 14, 3) := by decide +kernel
theorem dX7_isUnder_14 : decode cX7_isUnder 14 = .ok (.iload_n 0, 1) := by decide +kernel
theorem dX7_isUnder_15 : decode cX7_isUnder 15 = .ok (.iconst 3, 1) := by decide +kernel
theorem dX7_isUnder_16 : decode cX7_isUnder 16 = .ok (.isub, 1) := by decide +kernel
theorem dX7_isUnder_17 : decode cX7_isUnder 17 = .ok (.iload_n 1, 1) := by decide +kernel
theorem dX7_isUnder_18 : decode cX7_isUnder 18 = .ok (.if_icmp .ne 7, 3) := by decide +kernel
theorem dX7_isUnder_21 : decode cX7_isUnder 21 = .ok (.iconst 1, 1) := by decide +kernel
theorem dX7_isUnder_22 : decode cX7_isUnder 22 = .ok (.goto 4, 3) := by decide +kernel
theorem dX7_isUnder_25 : decode cX7_isUnder 25 = .ok (.iconst 0, 1) := by decide +kernel
theorem dX7_isUnder_26 : decode cX7_isUnder 26 = .ok (.ireturn, 1) := by decide +kernel
set_option maxRecDepth 20000 in
theorem ggX7_as_X7_isPerson : GoodIn wsX7_as wsX7_isPerson := goodIn_r _ [7, 8, 9, 10, 6, 11, 31, 32, 33, 34, 35, 36, 37, 38, 39, 40, 41, 42, 43, 44, 45, 46, 47, 48] rfl (by decide +kernel)
set_option maxRecDepth 20000 in
theorem gX7_as_X7_isPerson : GoodIn wsX7_as (wsV RX7 64 RX7 yX7_isPerson wsX7_isPerson) := goodIn_app (goodIn_of _ (by decide +kernel)) ggX7_as_X7_isPerson
set_option maxRecDepth 20000 in
theorem ggX7_as_X7_isKind : GoodIn wsX7_as wsX7_isKind := goodIn_r _ [14, 15, 9, 10, 6, 11] rfl (by decide +kernel)
set_option maxRecDepth 20000 in
theorem gX7_as_X7_isKind : GoodIn wsX7_as (va_wsS RX7 86 yX7_isKind wsX7_isKind) := goodIn_app (goodIn_of _ (by decide +kernel)) ggX7_as_X7_isKind
set_option maxRecDepth 20000 in
theorem ggX7_as_X7_finds : GoodIn wsX7_as wsX7_finds := goodIn_r _ [19, 20, 1, 31, 32, 33, 34, 35, 36, 37, 38, 39, 40, 41, 42, 43, 44, 45, 46, 47, 48] rfl (by decide +kernel)
set_option maxRecDepth 20000 in
theorem gX7_as_X7_finds : GoodIn wsX7_as (wsV RX7 78 RX7 yX7_finds wsX7_finds) := goodIn_app (goodIn_of _ (by decide +kernel)) ggX7_as_X7_finds
set_option maxRecDepth 20000 in
theorem ggX7_as_X7_its : GoodIn wsX7_as wsX7_its := goodIn_r _ [24, 8, 25, 26, 6, 27, 31, 32, 33, 34, 35, 36, 37, 38, 39, 40, 41, 42, 43, 44, 45, 46, 47, 48] rfl (by decide +kernel)
set_option maxRecDepth 20000 in
theorem gX7_as_X7_its : GoodIn wsX7_as (wsV RX7 93 RX7 yX7_its wsX7_its) := goodIn_app (goodIn_of _ (by decide +kernel)) ggX7_as_X7_its
set_option maxRecDepth 20000 in
theorem ggX7_as_X7_isUnder : GoodIn wsX7_as wsX7_isUnder := goodIn_r _ [30] rfl (by decide +kernel)
set_option maxRecDepth 20000 in
theorem gX7_as_X7_isUnder : GoodIn wsX7_as (va_wsS RX7 109 yX7_isUnder wsX7_isUnder) := goodIn_app (goodIn_of _ (by decide +kernel)) ggX7_as_X7_isUnder
theorem dX7_as_0 : decode cX7_as 0 = .ok (.aload_n 0, 1) := by decide +kernel
theorem dX7_as_1 : decode cX7_as 1 = .ok (.iload_n 1, 1) := by decide +kernel
theorem dX7_as_2 : decode cX7_as 2 = .ok (.invokevirtual 64, 3) := by decide +kernel
theorem dX7_as_5 : decode cX7_as 5 = .ok (.ifCond .eq 10, 3) := by decide +kernel
theorem dX7_as_8 : decode cX7_as 8 = .ok (.iload_n 2, 1) := by decide +kernel
theorem dX7_as_9 : decode cX7_as 9 = .ok (.invokestatic 86, 3) := by decide +kernel
theorem dX7_as_12 : decode cX7_as 12 = .ok (.ifCond .ne 10, 3) := by decide +kernel
theorem dX7_as_15 : decode cX7_as 15 = .ok (.aload_n 0, 1) := by decide +kernel
theorem dX7_as_16 : decode cX7_as 16 = .ok (.ldc 48, 2) := by decide +kernel
theorem dX7_as_18 : decode cX7_as 18 = .ok (.invokevirtual 78, 3) := by decide +kernel
theorem dX7_as_21 : decode cX7_as 21 = .ok (.ireturn, 1) := by decide +kernel
theorem dX7_as_22 : decode cX7_as 22 = .ok (.aload_n 0, 1) := by decide +kernel
theorem dX7_as_23 : decode cX7_as 23 = .ok (.iload_n 1, 1) := by decide +kernel
theorem dX7_as_24 : decode cX7_as 24 = .ok (.iconst 0, 1) := by decide +kernel
theorem dX7_as_25 : decode cX7_as 25 = .ok (.invokevirtual 93, 3) := by decide +kernel
theorem dX7_as_28 : decode cX7_as 28 = .ok (.iload_n 2, 1) := by decide +kernel
theorem dX7_as_29 : decode cX7_as 29 = .ok (.invokestatic 109, 3) := by decide +kernel
theorem dX7_as_32 : decode cX7_as 32 = .ok (.ifCond .eq 12, 3) := by decide +kernel
theorem dX7_as_35 : decode cX7_as 35 = .ok (.aload_n 0, 1) := by decide +kernel
theorem dX7_as_36 : decode cX7_as 36 = .ok (.iload_n 1, 1) := by decide +kernel
theorem dX7_as_37 : decode cX7_as 37 = .ok (.iconst 1, 1) := by decide +kernel
theorem dX7_as_38 : decode cX7_as 38 = .ok (.invokevirtual 93, 3) := by decide +kernel
theorem dX7_as_41 : decode cX7_as 41 = .ok (.goto 9, 3) := by decide +kernel
theorem dX7_as_44 : decode cX7_as 44 = .ok (.aload_n 0, 1) := by decide +kernel
theorem dX7_as_45 : decode cX7_as 45 = .ok (.ldc 112, 2) := by decide +kernel
theorem dX7_as_47 : decode cX7_as 47 = .ok (.invokevirtual 78, 3) := by decide +kernel
theorem dX7_as_50 : decode cX7_as 50 = .ok (.ireturn, 1) := by decide +kernel
set_option maxRecDepth 20000 in
theorem ggX7_does_X7_isPerson : GoodIn wsX7_does wsX7_isPerson := goodIn_r _ [8, 3, 9, 10, 7, 11, 31, 32, 33, 34, 35, 36, 37, 38, 39, 40, 41, 42, 43, 44, 45, 46, 47, 48] rfl (by decide +kernel)
set_option maxRecDepth 20000 in
theorem gX7_does_X7_isPerson : GoodIn wsX7_does (wsV RX7 64 RX7 yX7_isPerson wsX7_isPerson) := goodIn_app (goodIn_of _ (by decide +kernel)) ggX7_does_X7_isPerson
set_option maxRecDepth 20000 in
theorem ggX7_does_X7_in : GoodIn wsX7_does wsX7_in := goodIn_r _ [11] rfl (by decide +kernel)
set_option maxRecDepth 20000 in
theorem gX7_does_X7_in : GoodIn wsX7_does (va_wsS RX7 51 yX7_in wsX7_in) := goodIn_app (goodIn_of _ (by decide +kernel)) ggX7_does_X7_in
set_option maxRecDepth 20000 in
theorem ggX7_does_X7_finds : GoodIn wsX7_does wsX7_finds := goodIn_r _ [15, 16, 2, 31, 32, 33, 34, 35, 36, 37, 38, 39, 40, 41, 42, 43, 44, 45, 46, 47, 48] rfl (by decide +kernel)
set_option maxRecDepth 20000 in
theorem gX7_does_X7_finds : GoodIn wsX7_does (wsV RX7 78 RX7 yX7_finds wsX7_finds) := goodIn_app (goodIn_of _ (by decide +kernel)) ggX7_does_X7_finds
set_option maxRecDepth 20000 in
theorem ggX7_does_X7_spot : GoodIn wsX7_does wsX7_spot := goodIn_r _ [19] rfl (by decide +kernel)
set_option maxRecDepth 20000 in
theorem gX7_does_X7_spot : GoodIn wsX7_does (va_wsS RX7 57 yX7_spot wsX7_spot) := goodIn_app (goodIn_of _ (by decide +kernel)) ggX7_does_X7_spot
set_option maxRecDepth 20000 in
theorem ggX7_does_X7_deserves : GoodIn wsX7_does wsX7_deserves := goodIn_r _ [23, 24, 25, 26, 7, 27, 3, 17, 18, 19, 28, 29, 30, 31, 32, 33, 34, 35, 36, 37, 38, 39, 40, 41, 42, 43, 44, 45, 46, 47, 48] rfl (by decide +kernel)
set_option maxRecDepth 20000 in
theorem gX7_does_X7_deserves : GoodIn wsX7_does (wsV RX7 99 RX7 yX7_deserves wsX7_deserves) := goodIn_app (goodIn_of _ (by decide +kernel)) ggX7_does_X7_deserves
theorem dX7_does_0 : decode cX7_does 0 = .ok (.aload_n 0, 1) := by decide +kernel
theorem dX7_does_1 : decode cX7_does 1 = .ok (.iload_n 1, 1) := by decide +kernel
theorem dX7_does_2 : decode cX7_does 2 = .ok (.invokevirtual 64, 3) := by decide +kernel
theorem dX7_does_5 : decode cX7_does 5 = .ok (.ifCond .eq 15, 3) := by decide +kernel
theorem dX7_does_8 : decode cX7_does 8 = .ok (.iload_n 2, 1) := by decide +kernel
theorem dX7_does_9 : decode cX7_does 9 = .ok (.i2l, 1) := by decide +kernel
theorem dX7_does_10 : decode cX7_does 10 = .ok (.lconst 0, 1) := by decide +kernel
theorem dX7_does_11 : decode cX7_does 11 = .ok (.ldc2_w 113, 3) := by decide +kernel
theorem dX7_does_14 : decode cX7_does 14 = .ok (.invokestatic 51, 3) := by decide +kernel
theorem dX7_does_17 : decode cX7_does 17 = .ok (.ifCond .ne 10, 3) := by decide +kernel
theorem dX7_does_20 : decode cX7_does 20 = .ok (.aload_n 0, 1) := by decide +kernel
theorem dX7_does_21 : decode cX7_does 21 = .ok (.ldc 48, 2) := by decide +kernel
theorem dX7_does_23 : decode cX7_does 23 = .ok (.invokevirtual 78, 3) := by decide +kernel
theorem dX7_does_26 : decode cX7_does 26 = .ok (.ireturn, 1) := by decide +kernel
theorem dX7_does_27 : decode cX7_does 27 = .ok (.aload_n 0, 1) := by decide +kernel
theorem dX7_does_28 : decode cX7_does 28 = .ok (.getfield 7, 3) := by decide +kernel
theorem dX7_does_31 : decode cX7_does 31 = .ok (.iload_n 1, 1) := by decide +kernel
theorem dX7_does_32 : decode cX7_does 32 = .ok (.iconst 1, 1) := by decide +kernel
theorem dX7_does_33 : decode cX7_does 33 = .ok (.invokestatic 57, 3) := by decide +kernel
theorem dX7_does_36 : decode cX7_does 36 = .ok (.dup2, 1) := by decide +kernel
theorem dX7_does_37 : decode cX7_does 37 = .ok (.iaload, 1) := by decide +kernel
theorem dX7_does_38 : decode cX7_does 38 = .ok (.iconst 1, 1) := by decide +kernel
theorem dX7_does_39 : decode cX7_does 39 = .ok (.iload_n 2, 1) := by decide +kernel
theorem dX7_does_40 : decode cX7_does 40 = .ok (.ishl, 1) := by decide +kernel
theorem dX7_does_41 : decode cX7_does 41 = .ok (.ior, 1) := by decide +kernel
theorem dX7_does_42 : decode cX7_does 42 = .ok (.iastore, 1) := by decide +kernel
theorem dX7_does_43 : decode cX7_does 43 = .ok (.aload_n 0, 1) := by decide +kernel
theorem dX7_does_44 : decode cX7_does 44 = .ok (.iload_n 1, 1) := by decide +kernel
theorem dX7_does_45 : decode cX7_does 45 = .ok (.invokevirtual 99, 3) := by decide +kernel
theorem dX7_does_48 : decode cX7_does 48 = .ok (.ireturn, 1) := by decide +kernel
set_option maxRecDepth 20000 in
theorem ggX7_pulls_X7_gives : GoodIn wsX7_pulls wsX7_gives := goodIn_r _ [6, 1, 7, 8, 9, 5, 10, 11, 12, 13, 14, 15, 16, 17, 18, 19, 20, 24, 25, 26, 27, 28, 29, 30, 31, 32, 33, 34, 35, 36, 37, 38, 39, 40, 41] rfl (by decide +kernel)
set_option maxRecDepth 20000 in
theorem gX7_pulls_X7_gives : GoodIn wsX7_pulls (wsV RX7 102 RX7 yX7_gives wsX7_gives) := goodIn_app (goodIn_of _ (by decide +kernel)) ggX7_pulls_X7_gives
set_option maxRecDepth 20000 in
theorem ggX7_pulls_X7_field : GoodIn wsX7_pulls wsX7_field := goodIn_r _ [23] rfl (by decide +kernel)
set_option maxRecDepth 20000 in
theorem gX7_pulls_X7_field : GoodIn wsX7_pulls (va_wsS RX7 44 yX7_field wsX7_field) := goodIn_app (goodIn_of _ (by decide +kernel)) ggX7_pulls_X7_field
set_option maxRecDepth 20000 in
theorem ggX7_pulls_X7_spot : GoodIn wsX7_pulls wsX7_spot := goodIn_r _ [13] rfl (by decide +kernel)
set_option maxRecDepth 20000 in
theorem gX7_pulls_X7_spot : GoodIn wsX7_pulls (va_wsS RX7 57 yX7_spot wsX7_spot) := goodIn_app (goodIn_of _ (by decide +kernel)) ggX7_pulls_X7_spot
set_option maxRecDepth 20000 in
theorem ggX7_pulls_X7_its : GoodIn wsX7_pulls wsX7_its := goodIn_r _ [10, 1, 11, 12, 5, 13, 24, 25, 26, 27, 28, 29, 30, 31, 32, 33, 34, 35, 36, 37, 38, 39, 40, 41] rfl (by decide +kernel)
set_option maxRecDepth 20000 in
theorem gX7_pulls_X7_its : GoodIn wsX7_pulls (wsV RX7 93 RX7 yX7_its wsX7_its) := goodIn_app (goodIn_of _ (by decide +kernel)) ggX7_pulls_X7_its
theorem dX7_pulls_0 : decode cX7_pulls 0 = .ok (.aload_n 0, 1) := by decide +kernel
theorem dX7_pulls_1 : decode cX7_pulls 1 = .ok (.iload_n 1, 1) := by decide +kernel
theorem dX7_pulls_2 : decode cX7_pulls 2 = .ok (.invokevirtual 102, 3) := by decide +kernel
theorem dX7_pulls_5 : decode cX7_pulls 5 = .ok (.istore_n 3, 1) := by decide +kernel
theorem dX7_pulls_6 : decode cX7_pulls 6 = .ok (.aload_n 0, 1) := by decide +kernel
theorem dX7_pulls_7 : decode cX7_pulls 7 = .ok (.getfield 7, 3) := by decide +kernel
theorem dX7_pulls_10 : decode cX7_pulls 10 = .ok (.iload_n 2, 1) := by decide +kernel
theorem dX7_pulls_11 : decode cX7_pulls 11 = .ok (.iconst 1, 1) := by decide +kernel
theorem dX7_pulls_12 : decode cX7_pulls 12 = .ok (.invokestatic 44, 3) := by decide +kernel
theorem dX7_pulls_15 : decode cX7_pulls 15 = .ok (.iaload, 1) := by decide +kernel
theorem dX7_pulls_16 : decode cX7_pulls 16 = .ok (.iload_n 3, 1) := by decide +kernel
theorem dX7_pulls_17 : decode cX7_pulls 17 = .ok (.iadd, 1) := by decide +kernel
theorem dX7_pulls_18 : decode cX7_pulls 18 = .ok (.istore 4, 2) := by decide +kernel
theorem dX7_pulls_20 : decode cX7_pulls 20 = .ok (.aload_n 0, 1) := by decide +kernel
theorem dX7_pulls_21 : decode cX7_pulls 21 = .ok (.getfield 7, 3) := by decide +kernel
theorem dX7_pulls_24 : decode cX7_pulls 24 = .ok (.iload_n 2, 1) := by decide +kernel
theorem dX7_pulls_25 : decode cX7_pulls 25 = .ok (.iconst 1, 1) := by decide +kernel
theorem dX7_pulls_26 : decode cX7_pulls 26 = .ok (.invokestatic 44, 3) := by decide +kernel
theorem dX7_pulls_29 : decode cX7_pulls 29 = .ok (.iload 4, 2) := by decide +kernel
theorem dX7_pulls_31 : decode cX7_pulls 31 = .ok (.sipush 9999, 3) := by decide +kernel
theorem dX7_pulls_34 : decode cX7_pulls 34 = .ok (.if_icmp .le 9, 3) := by decide +kernel
theorem dX7_pulls_37 : decode cX7_pulls 37 = .ok (.sipush 9999, 3) := by decide +kernel
theorem dX7_pulls_40 : decode cX7_pulls 40 = .ok (.goto 5, 3) := by decide +kernel
theorem dX7_pulls_43 : decode cX7_pulls 43 = .ok (.iload 4, 2) := by decide +kernel
theorem dX7_pulls_45 : decode cX7_pulls 45 = .ok (.iastore, 1) := by decide +kernel
theorem dX7_pulls_46 : decode cX7_pulls 46 = .ok (.aload_n 0, 1) := by decide +kernel
theorem dX7_pulls_47 : decode cX7_pulls 47 = .ok (.getfield 7, 3) := by decide +kernel
theorem dX7_pulls_50 : decode cX7_pulls 50 = .ok (.iconst 2, 1) := by decide +kernel
theorem dX7_pulls_51 : decode cX7_pulls 51 = .ok (.dup2, 1) := by decide +kernel
theorem dX7_pulls_52 : decode cX7_pulls 52 = .ok (.iaload, 1) := by decide +kernel
theorem dX7_pulls_53 : decode cX7_pulls 53 = .ok (.iload_n 3, 1) := by decide +kernel
theorem dX7_pulls_54 : decode cX7_pulls 54 = .ok (.isub, 1) := by decide +kernel
theorem dX7_pulls_55 : decode cX7_pulls 55 = .ok (.iastore, 1) := by decide +kernel
theorem dX7_pulls_56 : decode cX7_pulls 56 = .ok (.aload_n 0, 1) := by decide +kernel
theorem dX7_pulls_57 : decode cX7_pulls 57 = .ok (.getfield 7, 3) := by decide +kernel
theorem dX7_pulls_60 : decode cX7_pulls 60 = .ok (.iload_n 1, 1) := by decide +kernel
theorem dX7_pulls_61 : decode cX7_pulls 61 = .ok (.iconst 3, 1) := by decide +kernel
theorem dX7_pulls_62 : decode cX7_pulls 62 = .ok (.invokestatic 57, 3) := by decide +kernel
theorem dX7_pulls_65 : decode cX7_pulls 65 = .ok (.dup2, 1) := by decide +kernel
theorem dX7_pulls_66 : decode cX7_pulls 66 = .ok (.iaload, 1) := by decide +kernel
theorem dX7_pulls_67 : decode cX7_pulls 67 = .ok (.aload_n 0, 1) := by decide +kernel
theorem dX7_pulls_68 : decode cX7_pulls 68 = .ok (.iload_n 1, 1) := by decide +kernel
theorem dX7_pulls_69 : decode cX7_pulls 69 = .ok (.iconst 3, 1) := by decide +kernel
theorem dX7_pulls_70 : decode cX7_pulls 70 = .ok (.invokevirtual 93, 3) := by decide +kernel
theorem dX7_pulls_73 : decode cX7_pulls 73 = .ok (.bipush 9, 2) := by decide +kernel
theorem dX7_pulls_75 : decode cX7_pulls 75 = .ok (.if_icmp .ge 7, 3) := by decide +kernel
theorem dX7_pulls_78 : decode cX7_pulls 78 = .ok (.iconst 1, 1) := by decide +kernel
theorem dX7_pulls_79 : decode cX7_pulls 79 = .ok (.goto 4, 3) := by decide +kernel
theorem dX7_pulls_82 : decode cX7_pulls 82 = .ok (.iconst 0, 1) := by decide +kernel
theorem dX7_pulls_83 : decode cX7_pulls 83 = .ok (.iadd, 1) := by decide +kernel
theorem dX7_pulls_84 : decode cX7_pulls 84 = .ok (.iastore, 1) := by decide +kernel
theorem dX7_pulls_85 : decode cX7_pulls 85 = .ok (.iload_n 3, 1) := by decide +kernel
theorem dX7_pulls_86 : decode cX7_pulls 86 = .ok (.ireturn, 1) := by decide +kernel
set_option maxRecDepth 20000 in
theorem ggX7_pull_X7_isPerson : GoodIn wsX7_pull wsX7_isPerson := goodIn_r _ [6, 7, 8, 9, 5, 10, 45, 46, 47, 48, 49, 50, 51, 52, 53, 54, 55, 56, 57, 58, 59, 60, 61, 62] rfl (by decide +kernel)
set_option maxRecDepth 20000 in
theorem gX7_pull_X7_isPerson : GoodIn wsX7_pull (wsV RX7 64 RX7 yX7_isPerson wsX7_isPerson) := goodIn_app (goodIn_of _ (by decide +kernel)) ggX7_pull_X7_isPerson
set_option maxRecDepth 20000 in
theorem ggX7_pull_X7_isFarm : GoodIn wsX7_pull wsX7_isFarm := goodIn_r _ [13, 14, 8, 9, 5, 10] rfl (by decide +kernel)
set_option maxRecDepth 20000 in
theorem gX7_pull_X7_isFarm : GoodIn wsX7_pull (va_wsS RX7 68 yX7_isFarm wsX7_isFarm) := goodIn_app (goodIn_of _ (by decide +kernel)) ggX7_pull_X7_isFarm
set_option maxRecDepth 20000 in
theorem ggX7_pull_X7_pulls : GoodIn wsX7_pull wsX7_pulls := goodIn_r _ [18, 7, 19, 20, 21, 5, 22, 23, 24, 25, 26, 27, 28, 29, 30, 31, 32, 33, 34, 35, 36, 37, 38, 39, 45, 46, 47, 48, 49, 50, 51, 52, 53, 54, 55, 56, 57, 58, 59, 60, 61, 62] rfl (by decide +kernel)
set_option maxRecDepth 20000 in
theorem gX7_pull_X7_pulls : GoodIn wsX7_pull (wsV RX7 115 RX7 yX7_pulls wsX7_pulls) := goodIn_app (goodIn_of _ (by decide +kernel)) ggX7_pull_X7_pulls
set_option maxRecDepth 20000 in
theorem ggX7_pull_X7_finds : GoodIn wsX7_pull wsX7_finds := goodIn_r _ [43, 44, 1, 45, 46, 47, 48, 49, 50, 51, 52, 53, 54, 55, 56, 57, 58, 59, 60, 61, 62] rfl (by decide +kernel)
set_option maxRecDepth 20000 in
theorem gX7_pull_X7_finds : GoodIn wsX7_pull (wsV RX7 78 RX7 yX7_finds wsX7_finds) := goodIn_app (goodIn_of _ (by decide +kernel)) ggX7_pull_X7_finds
theorem dX7_pull_0 : decode cX7_pull 0 = .ok (.aload_n 0, 1) := by decide +kernel
theorem dX7_pull_1 : decode cX7_pull 1 = .ok (.iload_n 1, 1) := by decide +kernel
theorem dX7_pull_2 : decode cX7_pull 2 = .ok (.invokevirtual 64, 3) := by decide +kernel
theorem dX7_pull_5 : decode cX7_pull 5 = .ok (.ifCond .eq 19, 3) := by decide +kernel
theorem dX7_pull_8 : decode cX7_pull 8 = .ok (.iload_n 2, 1) := by decide +kernel
theorem dX7_pull_9 : decode cX7_pull 9 = .ok (.invokestatic 68, 3) := by decide +kernel
theorem dX7_pull_12 : decode cX7_pull 12 = .ok (.ifCond .eq 12, 3) := by decide +kernel
theorem dX7_pull_15 : decode cX7_pull 15 = .ok (.aload_n 0, 1) := by decide +kernel
theorem dX7_pull_16 : decode cX7_pull 16 = .ok (.iload_n 1, 1) := by decide +kernel
theorem dX7_pull_17 : decode cX7_pull 17 = .ok (.iload_n 2, 1) := by decide +kernel
theorem dX7_pull_18 : decode cX7_pull 18 = .ok (.invokevirtual 115, 3) := by decide +kernel
theorem dX7_pull_21 : decode cX7_pull 21 = .ok (.goto 9, 3) := by decide +kernel
theorem dX7_pull_24 : decode cX7_pull 24 = .ok (.aload_n 0, 1) := by decide +kernel
theorem dX7_pull_25 : decode cX7_pull 25 = .ok (.ldc 48, 2) := by decide +kernel
theorem dX7_pull_27 : decode cX7_pull 27 = .ok (.invokevirtual 78, 3) := by decide +kernel
theorem dX7_pull_30 : decode cX7_pull 30 = .ok (.ireturn, 1) := by decide +kernel
set_option maxRecDepth 20000 in
theorem ggX7_uses_X7_field : GoodIn wsX7_uses wsX7_field := goodIn_r _ [6] rfl (by decide +kernel)
set_option maxRecDepth 20000 in
theorem gX7_uses_X7_field : GoodIn wsX7_uses (va_wsS RX7 44 yX7_field wsX7_field) := goodIn_app (goodIn_of _ (by decide +kernel)) ggX7_uses_X7_field
theorem dX7_uses_0 : decode cX7_uses 0 = .ok (.aload_n 0, 1) := by decide +kernel
theorem dX7_uses_1 : decode cX7_uses 1 = .ok (.getfield 7, 3) := by decide +kernel
theorem dX7_uses_4 : decode cX7_uses 4 = .ok (.iload_n 1, 1) := by decide +kernel
theorem dX7_uses_5 : decode cX7_uses 5 = .ok (.iconst 1, 1) := by decide +kernel
theorem dX7_uses_6 : decode cX7_uses 6 = .ok (.invokestatic 44, 3) := by decide +kernel
theorem dX7_uses_9 : decode cX7_uses 9 = .ok (.iaload, 1) := by decide +kernel
theorem dX7_uses_10 : decode cX7_uses 10 = .ok (.aload_n 0, 1) := by decide +kernel
theorem dX7_uses_11 : decode cX7_uses 11 = .ok (.getfield 7, 3) := by decide +kernel
theorem dX7_uses_14 : decode cX7_uses 14 = .ok (.iload_n 1, 1) := by decide +kernel
theorem dX7_uses_15 : decode cX7_uses 15 = .ok (.iconst 0, 1) := by decide +kernel
theorem dX7_uses_16 : decode cX7_uses 16 = .ok (.invokestatic 44, 3) := by decide +kernel
theorem dX7_uses_19 : decode cX7_uses 19 = .ok (.iaload, 1) := by decide +kernel
theorem dX7_uses_20 : decode cX7_uses 20 = .ok (.if_icmp .ge 7, 3) := by decide +kernel
theorem dX7_uses_23 : decode cX7_uses 23 = .ok (.iconst 1, 1) := by decide +kernel
theorem dX7_uses_24 : decode cX7_uses 24 = .ok (.goto 4, 3) := by decide +kernel
theorem dX7_uses_27 : decode cX7_uses 27 = .ok (.iconst 0, 1) := by decide +kernel
theorem dX7_uses_28 : decode cX7_uses 28 = .ok (.istore_n 2, 1) := by decide +kernel
theorem dX7_uses_29 : decode cX7_uses 29 = .ok (.aload_n 0, 1) := by decide +kernel
theorem dX7_uses_30 : decode cX7_uses 30 = .ok (.getfield 7, 3) := by decide +kernel
theorem dX7_uses_33 : decode cX7_uses 33 = .ok (.iload_n 1, 1) := by decide +kernel
theorem dX7_uses_34 : decode cX7_uses 34 = .ok (.iconst 1, 1) := by decide +kernel
theorem dX7_uses_35 : decode cX7_uses 35 = .ok (.invokestatic 44, 3) := by decide +kernel
theorem dX7_uses_38 : decode cX7_uses 38 = .ok (.iload_n 2, 1) := by decide +kernel
theorem dX7_uses_39 : decode cX7_uses 39 = .ok (.ifCond .eq 7, 3) := by decide +kernel
theorem dX7_uses_42 : decode cX7_uses 42 = .ok (.iconst 0, 1) := by decide +kernel
theorem dX7_uses_43 : decode cX7_uses 43 = .ok (.goto 24, 3) := by decide +kernel
theorem dX7_uses_46 : decode cX7_uses 46 = .ok (.aload_n 0, 1) := by decide +kernel
theorem dX7_uses_47 : decode cX7_uses 47 = .ok (.getfield 7, 3) := by decide +kernel
theorem dX7_uses_50 : decode cX7_uses 50 = .ok (.iload_n 1, 1) := by decide +kernel
theorem dX7_uses_51 : decode cX7_uses 51 = .ok (.iconst 1, 1) := by decide +kernel
theorem dX7_uses_52 : decode cX7_uses 52 = .ok (.invokestatic 44, 3) := by decide +kernel
theorem dX7_uses_55 : decode cX7_uses 55 = .ok (.iaload, 1) := by decide +kernel
theorem dX7_uses_56 : decode cX7_uses 56 = .ok (.aload_n 0, 1) := by decide +kernel
theorem dX7_uses_57 : decode cX7_uses 57 = .ok (.getfield 7, 3) := by decide +kernel
theorem dX7_uses_60 : decode cX7_uses 60 = .ok (.iload_n 1, 1) := by decide +kernel
theorem dX7_uses_61 : decode cX7_uses 61 = .ok (.iconst 0, 1) := by decide +kernel
theorem dX7_uses_62 : decode cX7_uses 62 = .ok (.invokestatic 44, 3) := by decide +kernel
theorem dX7_uses_65 : decode cX7_uses 65 = .ok (.iaload, 1) := by decide +kernel
theorem dX7_uses_66 : decode cX7_uses 66 = .ok (.isub, 1) := by decide +kernel
theorem dX7_uses_67 : decode cX7_uses 67 = .ok (.iastore, 1) := by decide +kernel
theorem dX7_uses_68 : decode cX7_uses 68 = .ok (.aload_n 0, 1) := by decide +kernel
theorem dX7_uses_69 : decode cX7_uses 69 = .ok (.getfield 7, 3) := by decide +kernel
theorem dX7_uses_72 : decode cX7_uses 72 = .ok (.iload_n 1, 1) := by decide +kernel
theorem dX7_uses_73 : decode cX7_uses 73 = .ok (.iconst 2, 1) := by decide +kernel
theorem dX7_uses_74 : decode cX7_uses 74 = .ok (.invokestatic 44, 3) := by decide +kernel
theorem dX7_uses_77 : decode cX7_uses 77 = .ok (.dup2, 1) := by decide +kernel
theorem dX7_uses_78 : decode cX7_uses 78 = .ok (.iaload, 1) := by decide +kernel
theorem dX7_uses_79 : decode cX7_uses 79 = .ok (.iload_n 2, 1) := by decide +kernel
theorem dX7_uses_80 : decode cX7_uses 80 = .ok (.ifCond .eq 23, 3) := by decide +kernel
theorem dX7_uses_83 : decode cX7_uses 83 = .ok (.aload_n 0, 1) := by decide +kernel
theorem dX7_uses_84 : decode cX7_uses 84 = .ok (.getfield 7, 3) := by decide +kernel
theorem dX7_uses_87 : decode cX7_uses 87 = .ok (.iload_n 1, 1) := by decide +kernel
theorem dX7_uses_88 : decode cX7_uses 88 = .ok (.iconst 2, 1) := by decide +kernel
theorem dX7_uses_89 : decode cX7_uses 89 = .ok (.invokestatic 44, 3) := by decide +kernel
theorem dX7_uses_92 : decode cX7_uses 92 = .ok (.iaload, 1) := by decide +kernel
theorem dX7_uses_93 : decode cX7_uses 93 = .ok (.sipush 9999, 3) := by decide +kernel
theorem dX7_uses_96 : decode cX7_uses 96 = .ok (.if_icmp .ge 7, 3) := by decide +kernel
theorem dX7_uses_99 : decode cX7_uses 99 = .ok (.iconst 1, 1) := by decide +kernel
theorem dX7_uses_100 : decode cX7_uses 100 = .ok (.goto 4, 3) := by decide +kernel
theorem dX7_uses_103 : decode cX7_uses 103 = .ok (.iconst 0, 1) := by decide +kernel
theorem dX7_uses_104 : decode cX7_uses 104 = .ok (.iadd, 1) := by decide +kernel
theorem dX7_uses_105 : decode cX7_uses 105 = .ok (.iastore, 1) := by decide +kernel
theorem dX7_uses_106 : decode cX7_uses 106 = .ok (.aload_n 0, 1) := by decide +kernel
theorem dX7_uses_107 : decode cX7_uses 107 = .ok (.dup, 1) := by decide +kernel
theorem dX7_uses_108 : decode cX7_uses 108 = .ok (.getfield 118, 3) := by decide +kernel
theorem dX7_uses_111 : decode cX7_uses 111 = .ok (.iload_n 2, 1) := by decide +kernel
theorem dX7_uses_112 : decode cX7_uses 112 = .ok (.ifCond .eq 9, 3) := by decide +kernel
theorem dX7_uses_115 : decode cX7_uses 115 = .ok (.iconst 1, 1) := by decide +kernel
theorem dX7_uses_116 : decode cX7_uses 116 = .ok (.iload_n 1, 1) := by decide +kernel
theorem dX7_uses_117 : decode cX7_uses 117 = .ok (.ishl, 1) := by decide +kernel
theorem dX7_uses_118 : decode cX7_uses 118 = .ok (.goto 4, 3) := by decide +kernel
theorem dX7_uses_121 : decode cX7_uses 121 = .ok (.iconst 0, 1) := by decide +kernel
theorem dX7_uses_122 : decode cX7_uses 122 = .ok (.ior, 1) := by decide +kernel
theorem dX7_uses_123 : decode cX7_uses 123 = .ok (.putfield 118, 3) := by decide +kernel
theorem dX7_uses_126 : decode cX7_uses 126 = .ok (.return_, 1) := by decide +kernel
set_option maxRecDepth 20000 in
theorem ggX7_day_X7_field : GoodIn wsX7_day wsX7_field := goodIn_r _ [6] rfl (by decide +kernel)
set_option maxRecDepth 20000 in
theorem gX7_day_X7_field : GoodIn wsX7_day (va_wsS RX7 44 yX7_field wsX7_field) := goodIn_app (goodIn_of _ (by decide +kernel)) ggX7_day_X7_field
set_option maxRecDepth 20000 in
theorem ggX7_day_X7_pulls : GoodIn wsX7_day wsX7_pulls := goodIn_r _ [10, 2, 11, 12, 13, 5, 14, 15, 16, 17, 18, 19, 20, 21, 22, 23, 24, 25, 26, 27, 28, 3, 4, 6, 33, 34, 35, 36, 37, 38, 39, 40, 41, 42, 43, 44, 45, 46, 47, 48, 49, 50] rfl (by decide +kernel)
set_option maxRecDepth 20000 in
theorem gX7_day_X7_pulls : GoodIn wsX7_day (wsV RX7 115 RX7 yX7_pulls wsX7_pulls) := goodIn_app (goodIn_of _ (by decide +kernel)) ggX7_day_X7_pulls
set_option maxRecDepth 20000 in
theorem ggX7_day_X7_uses : GoodIn wsX7_day wsX7_uses := goodIn_r _ [32, 2, 1, 3, 4, 5, 6, 33, 34, 35, 36, 37, 38, 39, 40, 41, 42, 43, 44, 45, 46, 47, 48, 49, 50] rfl (by decide +kernel)
set_option maxRecDepth 20000 in
theorem gX7_day_X7_uses : GoodIn wsX7_day (wsV RX7 122 RX7 yX7_uses wsX7_uses) := goodIn_app (goodIn_of _ (by decide +kernel)) ggX7_day_X7_uses
set_option maxRecDepth 20000 in
theorem ggX7_day_X7_spot : GoodIn wsX7_day wsX7_spot := goodIn_r _ [21] rfl (by decide +kernel)
set_option maxRecDepth 20000 in
theorem gX7_day_X7_spot : GoodIn wsX7_day (va_wsS RX7 57 yX7_spot wsX7_spot) := goodIn_app (goodIn_of _ (by decide +kernel)) ggX7_day_X7_spot
set_option maxRecDepth 20000 in
theorem ggX7_day_X7_its : GoodIn wsX7_day wsX7_its := goodIn_r _ [18, 2, 19, 20, 5, 21, 33, 34, 35, 36, 37, 38, 39, 40, 41, 42, 43, 44, 45, 46, 47, 48, 49, 50] rfl (by decide +kernel)
set_option maxRecDepth 20000 in
theorem gX7_day_X7_its : GoodIn wsX7_day (wsV RX7 93 RX7 yX7_its wsX7_its) := goodIn_app (goodIn_of _ (by decide +kernel)) ggX7_day_X7_its
theorem dX7_day_0 : decode cX7_day 0 = .ok (.aload_n 0, 1) := by decide +kernel
theorem dX7_day_1 : decode cX7_day 1 = .ok (.iconst 0, 1) := by decide +kernel
theorem dX7_day_2 : decode cX7_day 2 = .ok (.putfield 118, 3) := by decide +kernel
theorem dX7_day_5 : decode cX7_day 5 = .ok (.iconst 0, 1) := by decide +kernel
theorem dX7_day_6 : decode cX7_day 6 = .ok (.istore_n 1, 1) := by decide +kernel
theorem dX7_day_7 : decode cX7_day 7 = .ok (.iload_n 1, 1) := by decide +kernel
theorem dX7_day_8 : decode cX7_day 8 = .ok (.iconst 4, 1) := by decide +kernel
theorem dX7_day_9 : decode cX7_day 9 = .ok (.if_icmp .ge 38, 3) := by decide +kernel
theorem dX7_day_12 : decode cX7_day 12 = .ok (.aload_n 0, 1) := by decide +kernel
theorem dX7_day_13 : decode cX7_day 13 = .ok (.getfield 7, 3) := by decide +kernel
theorem dX7_day_16 : decode cX7_day 16 = .ok (.iload_n 1, 1) := by decide +kernel
theorem dX7_day_17 : decode cX7_day 17 = .ok (.iconst 3, 1) := by decide +kernel
theorem dX7_day_18 : decode cX7_day 18 = .ok (.invokestatic 44, 3) := by decide +kernel
theorem dX7_day_21 : decode cX7_day 21 = .ok (.iaload, 1) := by decide +kernel
theorem dX7_day_22 : decode cX7_day 22 = .ok (.ifCond .lt 19, 3) := by decide +kernel
theorem dX7_day_25 : decode cX7_day 25 = .ok (.aload_n 0, 1) := by decide +kernel
theorem dX7_day_26 : decode cX7_day 26 = .ok (.aload_n 0, 1) := by decide +kernel
theorem dX7_day_27 : decode cX7_day 27 = .ok (.getfield 7, 3) := by decide +kernel
theorem dX7_day_30 : decode cX7_day 30 = .ok (.iload_n 1, 1) := by decide +kernel
theorem dX7_day_31 : decode cX7_day 31 = .ok (.iconst 3, 1) := by decide +kernel
theorem dX7_day_32 : decode cX7_day 32 = .ok (.invokestatic 44, 3) := by decide +kernel
theorem dX7_day_35 : decode cX7_day 35 = .ok (.iaload, 1) := by decide +kernel
theorem dX7_day_36 : decode cX7_day 36 = .ok (.iload_n 1, 1) := by decide +kernel
theorem dX7_day_37 : decode cX7_day 37 = .ok (.invokevirtual 115, 3) := by decide +kernel
theorem dX7_day_40 : decode cX7_day 40 = .ok (.istore_n 2, 1) := by decide +kernel
theorem dX7_day_41 : decode cX7_day 41 = .ok (.iinc 1 1, 3) := by decide +kernel
theorem dX7_day_44 : decode cX7_day 44 = .ok (.goto (-37), 3) := by decide +kernel
theorem dX7_day_47 : decode cX7_day 47 = .ok (.iconst 0, 1) := by decide +kernel
theorem dX7_day_48 : decode cX7_day 48 = .ok (.istore_n 1, 1) := by decide +kernel
theorem dX7_day_49 : decode cX7_day 49 = .ok (.iload_n 1, 1) := by decide +kernel
theorem dX7_day_50 : decode cX7_day 50 = .ok (.iconst 4, 1) := by decide +kernel
theorem dX7_day_51 : decode cX7_day 51 = .ok (.if_icmp .ge 14, 3) := by decide +kernel
theorem dX7_day_54 : decode cX7_day 54 = .ok (.aload_n 0, 1) := by decide +kernel
theorem dX7_day_55 : decode cX7_day 55 = .ok (.iload_n 1, 1) := by decide +kernel
theorem dX7_day_56 : decode cX7_day 56 = .ok (.invokevirtual 122, 3) := by decide +kernel
theorem dX7_day_59 : decode cX7_day 59 = .ok (.iinc 1 1, 3) := by decide +kernel
theorem dX7_day_62 : decode cX7_day 62 = .ok (.goto (-13), 3) := by decide +kernel
theorem dX7_day_65 : decode cX7_day 65 = .ok (.iconst 0, 1) := by decide +kernel
theorem dX7_day_66 : decode cX7_day 66 = .ok (.istore_n 1, 1) := by decide +kernel
theorem dX7_day_67 : decode cX7_day 67 = .ok (.iload_n 1, 1) := by decide +kernel
theorem dX7_day_68 : decode cX7_day 68 = .ok (.aload_n 0, 1) := by decide +kernel
theorem dX7_day_69 : decode cX7_day 69 = .ok (.getfield 7, 3) := by decide +kernel
theorem dX7_day_72 : decode cX7_day 72 = .ok (.iconst 0, 1) := by decide +kernel
theorem dX7_day_73 : decode cX7_day 73 = .ok (.iaload, 1) := by decide +kernel
theorem dX7_day_74 : decode cX7_day 74 = .ok (.if_icmp .ge 41, 3) := by decide +kernel
theorem dX7_day_77 : decode cX7_day 77 = .ok (.aload_n 0, 1) := by decide +kernel
theorem dX7_day_78 : decode cX7_day 78 = .ok (.getfield 7, 3) := by decide +kernel
theorem dX7_day_81 : decode cX7_day 81 = .ok (.iload_n 1, 1) := by decide +kernel
theorem dX7_day_82 : decode cX7_day 82 = .ok (.iconst 3, 1) := by decide +kernel
theorem dX7_day_83 : decode cX7_day 83 = .ok (.invokestatic 57, 3) := by decide +kernel
theorem dX7_day_86 : decode cX7_day 86 = .ok (.iconst 0, 1) := by decide +kernel
theorem dX7_day_87 : decode cX7_day 87 = .ok (.iastore, 1) := by decide +kernel
theorem dX7_day_88 : decode cX7_day 88 = .ok (.aload_n 0, 1) := by decide +kernel
theorem dX7_day_89 : decode cX7_day 89 = .ok (.getfield 7, 3) := by decide +kernel
theorem dX7_day_92 : decode cX7_day 92 = .ok (.iload_n 1, 1) := by decide +kernel
theorem dX7_day_93 : decode cX7_day 93 = .ok (.iconst 1, 1) := by decide +kernel
theorem dX7_day_94 : decode cX7_day 94 = .ok (.invokestatic 57, 3) := by decide +kernel
theorem dX7_day_97 : decode cX7_day 97 = .ok (.dup2, 1) := by decide +kernel
theorem dX7_day_98 : decode cX7_day 98 = .ok (.iaload, 1) := by decide +kernel
theorem dX7_day_99 : decode cX7_day 99 = .ok (.aload_n 0, 1) := by decide +kernel
theorem dX7_day_100 : decode cX7_day 100 = .ok (.iload_n 1, 1) := by decide +kernel
theorem dX7_day_101 : decode cX7_day 101 = .ok (.iconst 1, 1) := by decide +kernel
theorem dX7_day_102 : decode cX7_day 102 = .ok (.invokevirtual 93, 3) := by decide +kernel
theorem dX7_day_105 : decode cX7_day 105 = .ok (.iconst 1, 1) := by decide +kernel
theorem dX7_day_106 : decode cX7_day 106 = .ok (.isub, 1) := by decide +kernel
theorem dX7_day_107 : decode cX7_day 107 = .ok (.iand, 1) := by decide +kernel
theorem dX7_day_108 : decode cX7_day 108 = .ok (.iastore, 1) := by decide +kernel
theorem dX7_day_109 : decode cX7_day 109 = .ok (.iinc 1 1, 3) := by decide +kernel
theorem dX7_day_112 : decode cX7_day 112 = .ok (.goto (-45), 3) := by decide +kernel
theorem dX7_day_115 : decode cX7_day 115 = .ok (.aload_n 0, 1) := by decide +kernel
theorem dX7_day_116 : decode cX7_day 116 = .ok (.getfield 7, 3) := by decide +kernel
theorem dX7_day_119 : decode cX7_day 119 = .ok (.iconst 2, 1) := by decide +kernel
theorem dX7_day_120 : decode cX7_day 120 = .ok (.iaload, 1) := by decide +kernel
theorem dX7_day_121 : decode cX7_day 121 = .ok (.aload_n 0, 1) := by decide +kernel
theorem dX7_day_122 : decode cX7_day 122 = .ok (.getfield 7, 3) := by decide +kernel
theorem dX7_day_125 : decode cX7_day 125 = .ok (.iconst 3, 1) := by decide +kernel
theorem dX7_day_126 : decode cX7_day 126 = .ok (.iaload, 1) := by decide +kernel
theorem dX7_day_127 : decode cX7_day 127 = .ok (.iadd, 1) := by decide +kernel
theorem dX7_day_128 : decode cX7_day 128 = .ok (.istore_n 1, 1) := by decide +kernel
theorem dX7_day_129 : decode cX7_day 129 = .ok (.aload_n 0, 1) := by decide +kernel
theorem dX7_day_130 : decode cX7_day 130 = .ok (.getfield 7, 3) := by decide +kernel
theorem dX7_day_133 : decode cX7_day 133 = .ok (.iconst 2, 1) := by decide +kernel
theorem dX7_day_134 : decode cX7_day 134 = .ok (.iload_n 1, 1) := by decide +kernel
theorem dX7_day_135 : decode cX7_day 135 = .ok (.sipush 9999, 3) := by decide +kernel
theorem dX7_day_138 : decode cX7_day 138 = .ok (.if_icmp .le 9, 3) := by decide +kernel
theorem dX7_day_141 : decode cX7_day 141 = .ok (.sipush 9999, 3) := by decide +kernel
theorem dX7_day_144 : decode cX7_day 144 = .ok (.goto 4, 3) := by decide +kernel
theorem dX7_day_147 : decode cX7_day 147 = .ok (.iload_n 1, 1) := by decide +kernel
theorem dX7_day_148 : decode cX7_day 148 = .ok (.iastore, 1) := by decide +kernel
theorem dX7_day_149 : decode cX7_day 149 = .ok (.aload_n 0, 1) := by decide +kernel
theorem dX7_day_150 : decode cX7_day 150 = .ok (.getfield 7, 3) := by decide +kernel
theorem dX7_day_153 : decode cX7_day 153 = .ok (.iconst 1, 1) := by decide +kernel
theorem dX7_day_154 : decode cX7_day 154 = .ok (.dup2, 1) := by decide +kernel
theorem dX7_day_155 : decode cX7_day 155 = .ok (.iaload, 1) := by decide +kernel
theorem dX7_day_156 : decode cX7_day 156 = .ok (.iconst 1, 1) := by decide +kernel
theorem dX7_day_157 : decode cX7_day 157 = .ok (.iadd, 1) := by decide +kernel
theorem dX7_day_158 : decode cX7_day 158 = .ok (.iastore, 1) := by decide +kernel
theorem dX7_day_159 : decode cX7_day 159 = .ok (.return_, 1) := by decide +kernel
set_option maxRecDepth 20000 in
theorem ggX7_goesOn_X7_day : GoodIn wsX7_goesOn wsX7_day := goodIn_r _ [5, 6, 7, 8, 9, 4, 10, 11, 12, 13, 14, 15, 16, 17, 18, 19, 20, 21, 22, 23, 24, 25, 26, 27, 28, 29, 30, 31, 32, 33, 34, 35, 36, 37, 38, 39, 40, 41, 42, 43, 44, 45, 46, 47, 48, 49, 50, 51, 52, 53, 54] rfl (by decide +kernel)
set_option maxRecDepth 20000 in
theorem gX7_goesOn_X7_day : GoodIn wsX7_goesOn (wsV RX7 126 RX7 yX7_day wsX7_day) := goodIn_app (goodIn_of _ (by decide +kernel)) ggX7_goesOn_X7_day
theorem dX7_goesOn_0 : decode cX7_goesOn 0 = .ok (.iconst 0, 1) := by decide +kernel
theorem dX7_goesOn_1 : decode cX7_goesOn 1 = .ok (.istore_n 2, 1) := by decide +kernel
theorem dX7_goesOn_2 : decode cX7_goesOn 2 = .ok (.iload_n 2, 1) := by decide +kernel
theorem dX7_goesOn_3 : decode cX7_goesOn 3 = .ok (.iload_n 1, 1) := by decide +kernel
theorem dX7_goesOn_4 : decode cX7_goesOn 4 = .ok (.if_icmp .ge 13, 3) := by decide +kernel
theorem dX7_goesOn_7 : decode cX7_goesOn 7 = .ok (.aload_n 0, 1) := by decide +kernel
theorem dX7_goesOn_8 : decode cX7_goesOn 8 = .ok (.invokevirtual 126, 3) := by decide +kernel
theorem dX7_goesOn_11 : decode cX7_goesOn 11 = .ok (.iinc 2 1, 3) := by decide +kernel
theorem dX7_goesOn_14 : decode cX7_goesOn 14 = .ok (.goto (-12), 3) := by decide +kernel
theorem dX7_goesOn_17 : decode cX7_goesOn 17 = .ok (.return_, 1) := by decide +kernel
set_option maxRecDepth 20000 in
theorem ggX7_together_X7_field : GoodIn wsX7_together wsX7_field := goodIn_r _ [5] rfl (by decide +kernel)
set_option maxRecDepth 20000 in
theorem gX7_together_X7_field : GoodIn wsX7_together (va_wsS RX7 44 yX7_field wsX7_field) := goodIn_app (goodIn_of _ (by decide +kernel)) ggX7_together_X7_field
theorem dX7_together_0 : decode cX7_together 0 = .ok (.iconst 0, 1) := by decide +kernel
theorem dX7_together_1 : decode cX7_together 1 = .ok (.istore_n 2, 1) := by decide +kernel
theorem dX7_together_2 : decode cX7_together 2 = .ok (.iconst 0, 1) := by decide +kernel
theorem dX7_together_3 : decode cX7_together 3 = .ok (.istore_n 3, 1) := by decide +kernel
theorem dX7_together_4 : decode cX7_together 4 = .ok (.iload_n 3, 1) := by decide +kernel
theorem dX7_together_5 : decode cX7_together 5 = .ok (.iconst 4, 1) := by decide +kernel
theorem dX7_together_6 : decode cX7_together 6 = .ok (.if_icmp .ge 22, 3) := by decide +kernel
theorem dX7_together_9 : decode cX7_together 9 = .ok (.iload_n 2, 1) := by decide +kernel
theorem dX7_together_10 : decode cX7_together 10 = .ok (.aload_n 0, 1) := by decide +kernel
theorem dX7_together_11 : decode cX7_together 11 = .ok (.getfield 7, 3) := by decide +kernel
theorem dX7_together_14 : decode cX7_together 14 = .ok (.iload_n 3, 1) := by decide +kernel
theorem dX7_together_15 : decode cX7_together 15 = .ok (.iload_n 1, 1) := by decide +kernel
theorem dX7_together_16 : decode cX7_together 16 = .ok (.invokestatic 44, 3) := by decide +kernel
theorem dX7_together_19 : decode cX7_together 19 = .ok (.iaload, 1) := by decide +kernel
theorem dX7_together_20 : decode cX7_together 20 = .ok (.iadd, 1) := by decide +kernel
theorem dX7_together_21 : decode cX7_together 21 = .ok (.istore_n 2, 1) := by decide +kernel
theorem dX7_together_22 : decode cX7_together 22 = .ok (.iinc 3 1, 3) := by decide +kernel
theorem dX7_together_25 : decode cX7_together 25 = .ok (.goto (-21), 3) := by decide +kernel
theorem dX7_together_28 : decode cX7_together 28 = .ok (.iload_n 2, 1) := by decide +kernel
theorem dX7_together_29 : decode cX7_together 29 = .ok (.ireturn, 1) := by decide +kernel
set_option maxRecDepth 20000 in
theorem ggX7_days_X7_in : GoodIn wsX7_days wsX7_in := goodIn_r _ [8] rfl (by decide +kernel)
set_option maxRecDepth 20000 in
theorem gX7_days_X7_in : GoodIn wsX7_days (va_wsS RX7 51 yX7_in wsX7_in) := goodIn_app (goodIn_of _ (by decide +kernel)) ggX7_days_X7_in
set_option maxRecDepth 20000 in
theorem ggX7_days_X7_finds : GoodIn wsX7_days wsX7_finds := goodIn_r _ [12, 13, 2, 56, 57, 58, 59, 60, 61, 62, 63, 64, 65, 66, 67, 68, 69, 70, 71, 72, 73] rfl (by decide +kernel)
set_option maxRecDepth 20000 in
theorem gX7_days_X7_finds : GoodIn wsX7_days (wsV RX7 78 RX7 yX7_finds wsX7_finds) := goodIn_app (goodIn_of _ (by decide +kernel)) ggX7_days_X7_finds
set_option maxRecDepth 20000 in
theorem ggX7_days_X7_goesOn : GoodIn wsX7_days wsX7_goesOn := goodIn_r _ [17, 18, 19, 20, 7, 21, 22, 3, 23, 24, 25, 26, 27, 28, 29, 30, 31, 32, 33, 34, 35, 36, 37, 38, 39, 40, 41, 42, 43, 44, 45, 46, 47, 48, 49, 50, 51, 56, 57, 58, 59, 60, 61, 62, 63, 64, 65, 66, 67, 68, 69, 70, 71, 72, 73] rfl (by decide +kernel)
set_option maxRecDepth 20000 in
theorem gX7_days_X7_goesOn : GoodIn wsX7_days (wsV RX7 132 RX7 yX7_goesOn wsX7_goesOn) := goodIn_app (goodIn_of _ (by decide +kernel)) ggX7_days_X7_goesOn
set_option maxRecDepth 20000 in
theorem ggX7_days_X7_together : GoodIn wsX7_days wsX7_together := goodIn_r _ [55, 3, 23, 24, 7, 25, 56, 57, 58, 59, 60, 61, 62, 63, 64, 65, 66, 67, 68, 69, 70, 71, 72, 73] rfl (by decide +kernel)
set_option maxRecDepth 20000 in
theorem gX7_days_X7_together : GoodIn wsX7_days (wsV RX7 135 RX7 yX7_together wsX7_together) := goodIn_app (goodIn_of _ (by decide +kernel)) ggX7_days_X7_together
theorem dX7_days_0 : decode cX7_days 0 = .ok (.iload_n 1, 1) := by decide +kernel
theorem dX7_days_1 : decode cX7_days 1 = .ok (.i2l, 1) := by decide +kernel
theorem dX7_days_2 : decode cX7_days 2 = .ok (.lconst 1, 1) := by decide +kernel
theorem dX7_days_3 : decode cX7_days 3 = .ok (.ldc2_w 129, 3) := by decide +kernel
theorem dX7_days_6 : decode cX7_days 6 = .ok (.invokestatic 51, 3) := by decide +kernel
theorem dX7_days_9 : decode cX7_days 9 = .ok (.ifCond .ne 10, 3) := by decide +kernel
theorem dX7_days_12 : decode cX7_days 12 = .ok (.aload_n 0, 1) := by decide +kernel
theorem dX7_days_13 : decode cX7_days 13 = .ok (.ldc 48, 2) := by decide +kernel
theorem dX7_days_15 : decode cX7_days 15 = .ok (.invokevirtual 78, 3) := by decide +kernel
theorem dX7_days_18 : decode cX7_days 18 = .ok (.ireturn, 1) := by decide +kernel
theorem dX7_days_19 : decode cX7_days 19 = .ok (.aload_n 0, 1) := by decide +kernel
theorem dX7_days_20 : decode cX7_days 20 = .ok (.getfield 7, 3) := by decide +kernel
theorem dX7_days_23 : decode cX7_days 23 = .ok (.iconst 1, 1) := by decide +kernel
theorem dX7_days_24 : decode cX7_days 24 = .ok (.iaload, 1) := by decide +kernel
theorem dX7_days_25 : decode cX7_days 25 = .ok (.iload_n 1, 1) := by decide +kernel
theorem dX7_days_26 : decode cX7_days 26 = .ok (.iadd, 1) := by decide +kernel
theorem dX7_days_27 : decode cX7_days 27 = .ok (.sipush 9999, 3) := by decide +kernel
theorem dX7_days_30 : decode cX7_days 30 = .ok (.if_icmp .le 10, 3) := by decide +kernel
theorem dX7_days_33 : decode cX7_days 33 = .ok (.aload_n 0, 1) := by decide +kernel
theorem dX7_days_34 : decode cX7_days 34 = .ok (.ldc 131, 2) := by decide +kernel
theorem dX7_days_36 : decode cX7_days 36 = .ok (.invokevirtual 78, 3) := by decide +kernel
theorem dX7_days_39 : decode cX7_days 39 = .ok (.ireturn, 1) := by decide +kernel
theorem dX7_days_40 : decode cX7_days 40 = .ok (.aload_n 0, 1) := by decide +kernel
theorem dX7_days_41 : decode cX7_days 41 = .ok (.iload_n 1, 1) := by decide +kernel
theorem dX7_days_42 : decode cX7_days 42 = .ok (.invokevirtual 132, 3) := by decide +kernel
theorem dX7_days_45 : decode cX7_days 45 = .ok (.aload_n 0, 1) := by decide +kernel
theorem dX7_days_46 : decode cX7_days 46 = .ok (.iconst 2, 1) := by decide +kernel
theorem dX7_days_47 : decode cX7_days 47 = .ok (.invokevirtual 135, 3) := by decide +kernel
theorem dX7_days_50 : decode cX7_days 50 = .ok (.ireturn, 1) := by decide +kernel
set_option maxRecDepth 20000 in
theorem ggX7_now_X7_together : GoodIn wsX7_now wsX7_together := goodIn_r _ [7, 1, 8, 9, 6, 10, 16, 17, 18, 19, 20, 21, 22, 23, 24, 25, 26, 27, 28, 29, 30, 31, 32, 33] rfl (by decide +kernel)
set_option maxRecDepth 20000 in
theorem gX7_now_X7_together : GoodIn wsX7_now (wsV RX7 135 RX7 yX7_together wsX7_together) := goodIn_app (goodIn_of _ (by decide +kernel)) ggX7_now_X7_together
set_option maxRecDepth 20000 in
theorem ggX7_now_X7_finds : GoodIn wsX7_now wsX7_finds := goodIn_r _ [14, 15, 2, 16, 17, 18, 19, 20, 21, 22, 23, 24, 25, 26, 27, 28, 29, 30, 31, 32, 33] rfl (by decide +kernel)
set_option maxRecDepth 20000 in
theorem gX7_now_X7_finds : GoodIn wsX7_now (wsV RX7 78 RX7 yX7_finds wsX7_finds) := goodIn_app (goodIn_of _ (by decide +kernel)) ggX7_now_X7_finds
theorem dX7_now_0 : decode cX7_now 0 = .ok (.iload_n 1, 1) := by decide +kernel
theorem dX7_now_1 : decode cX7_now 1 = .ok (.tableswitch 70 0 6 #[43, 43, 43, 43, 52, 58, 64], 43) := by decide +kernel
theorem dX7_now_44 : decode cX7_now 44 = .ok (.aload_n 0, 1) := by decide +kernel
theorem dX7_now_45 : decode cX7_now 45 = .ok (.getfield 7, 3) := by decide +kernel
theorem dX7_now_48 : decode cX7_now 48 = .ok (.iconst 1, 1) := by decide +kernel
theorem dX7_now_49 : decode cX7_now 49 = .ok (.iload_n 1, 1) := by decide +kernel
theorem dX7_now_50 : decode cX7_now 50 = .ok (.iadd, 1) := by decide +kernel
theorem dX7_now_51 : decode cX7_now 51 = .ok (.iaload, 1) := by decide +kernel
theorem dX7_now_52 : decode cX7_now 52 = .ok (.ireturn, 1) := by decide +kernel
theorem dX7_now_53 : decode cX7_now 53 = .ok (.aload_n 0, 1) := by decide +kernel
theorem dX7_now_54 : decode cX7_now 54 = .ok (.iconst 1, 1) := by decide +kernel
theorem dX7_now_55 : decode cX7_now 55 = .ok (.invokevirtual 135, 3) := by decide +kernel
theorem dX7_now_58 : decode cX7_now 58 = .ok (.ireturn, 1) := by decide +kernel
theorem dX7_now_59 : decode cX7_now 59 = .ok (.aload_n 0, 1) := by decide +kernel
theorem dX7_now_60 : decode cX7_now 60 = .ok (.iconst 2, 1) := by decide +kernel
theorem dX7_now_61 : decode cX7_now 61 = .ok (.invokevirtual 135, 3) := by decide +kernel
theorem dX7_now_64 : decode cX7_now 64 = .ok (.ireturn, 1) := by decide +kernel
theorem dX7_now_65 : decode cX7_now 65 = .ok (.aload_n 0, 1) := by decide +kernel
theorem dX7_now_66 : decode cX7_now 66 = .ok (.iconst 0, 1) := by decide +kernel
theorem dX7_now_67 : decode cX7_now 67 = .ok (.invokevirtual 135, 3) := by decide +kernel
theorem dX7_now_70 : decode cX7_now 70 = .ok (.ireturn, 1) := by decide +kernel
theorem dX7_now_71 : decode cX7_now 71 = .ok (.aload_n 0, 1) := by decide +kernel
theorem dX7_now_72 : decode cX7_now 72 = .ok (.ldc 48, 2) := by decide +kernel
theorem dX7_now_74 : decode cX7_now 74 = .ok (.invokevirtual 78, 3) := by decide +kernel
theorem dX7_now_77 : decode cX7_now 77 = .ok (.ireturn, 1) := by decide +kernel
set_option maxRecDepth 20000 in
theorem ggX7_on_X7_isFarm : GoodIn wsX7_on wsX7_isFarm := goodIn_r _ [8, 9, 10, 11, 7, 12] rfl (by decide +kernel)
set_option maxRecDepth 20000 in
theorem gX7_on_X7_isFarm : GoodIn wsX7_on (va_wsS RX7 68 yX7_isFarm wsX7_isFarm) := goodIn_app (goodIn_of _ (by decide +kernel)) ggX7_on_X7_isFarm
set_option maxRecDepth 20000 in
theorem ggX7_on_X7_in : GoodIn wsX7_on wsX7_in := goodIn_r _ [12] rfl (by decide +kernel)
set_option maxRecDepth 20000 in
theorem gX7_on_X7_in : GoodIn wsX7_on (va_wsS RX7 51 yX7_in wsX7_in) := goodIn_app (goodIn_of _ (by decide +kernel)) ggX7_on_X7_in
set_option maxRecDepth 20000 in
theorem ggX7_on_X7_finds : GoodIn wsX7_on wsX7_finds := goodIn_r _ [16, 17, 3, 65, 66, 67, 68, 69, 70, 71, 72, 73, 74, 75, 76, 77, 78, 79, 80, 81, 82] rfl (by decide +kernel)
set_option maxRecDepth 20000 in
theorem gX7_on_X7_finds : GoodIn wsX7_on (wsV RX7 78 RX7 yX7_finds wsX7_finds) := goodIn_app (goodIn_of _ (by decide +kernel)) ggX7_on_X7_finds
set_option maxRecDepth 20000 in
theorem ggX7_on_X7_laysAside : GoodIn wsX7_on wsX7_laysAside := goodIn_r _ [21, 22, 4, 65, 66, 67, 68, 69, 70, 71, 72, 73, 74, 75, 76, 77, 78, 79, 80, 81, 82] rfl (by decide +kernel)
set_option maxRecDepth 20000 in
theorem gX7_on_X7_laysAside : GoodIn wsX7_on (wsV RX7 138 RX7 yX7_laysAside wsX7_laysAside) := goodIn_app (goodIn_of _ (by decide +kernel)) ggX7_on_X7_laysAside
set_option maxRecDepth 20000 in
theorem ggX7_on_X7_goesOn : GoodIn wsX7_on wsX7_goesOn := goodIn_r _ [26, 27, 28, 29, 7, 30, 31, 4, 32, 33, 34, 35, 36, 37, 38, 39, 40, 41, 42, 43, 44, 45, 46, 47, 48, 49, 50, 51, 52, 53, 54, 55, 56, 57, 58, 59, 60, 65, 66, 67, 68, 69, 70, 71, 72, 73, 74, 75, 76, 77, 78, 79, 80, 81, 82] rfl (by decide +kernel)
set_option maxRecDepth 20000 in
theorem gX7_on_X7_goesOn : GoodIn wsX7_on (wsV RX7 132 RX7 yX7_goesOn wsX7_goesOn) := goodIn_app (goodIn_of _ (by decide +kernel)) ggX7_on_X7_goesOn
set_option maxRecDepth 20000 in
theorem ggX7_on_X7_field : GoodIn wsX7_on wsX7_field := goodIn_r _ [34] rfl (by decide +kernel)
set_option maxRecDepth 20000 in
theorem gX7_on_X7_field : GoodIn wsX7_on (va_wsS RX7 44 yX7_field wsX7_field) := goodIn_app (goodIn_of _ (by decide +kernel)) ggX7_on_X7_field
set_option maxRecDepth 20000 in
theorem ggX7_on_X7_takesBack : GoodIn wsX7_on wsX7_takesBack := goodIn_r _ [64, 4, 22, 65, 66, 67, 68, 69, 70, 71, 72, 73, 74, 75, 76, 77, 78, 79, 80, 81, 82] rfl (by decide +kernel)
set_option maxRecDepth 20000 in
theorem gX7_on_X7_takesBack : GoodIn wsX7_on (wsV RX7 141 RX7 yX7_takesBack wsX7_takesBack) := goodIn_app (goodIn_of _ (by decide +kernel)) ggX7_on_X7_takesBack
theorem dX7_on_0 : decode cX7_on 0 = .ok (.iload_n 1, 1) := by decide +kernel
theorem dX7_on_1 : decode cX7_on 1 = .ok (.invokestatic 68, 3) := by decide +kernel
theorem dX7_on_4 : decode cX7_on 4 = .ok (.ifCond .eq 27, 3) := by decide +kernel
theorem dX7_on_7 : decode cX7_on 7 = .ok (.iload_n 2, 1) := by decide +kernel
theorem dX7_on_8 : decode cX7_on 8 = .ok (.i2l, 1) := by decide +kernel
theorem dX7_on_9 : decode cX7_on 9 = .ok (.lconst 0, 1) := by decide +kernel
theorem dX7_on_10 : decode cX7_on 10 = .ok (.ldc2_w 129, 3) := by decide +kernel
theorem dX7_on_13 : decode cX7_on 13 = .ok (.invokestatic 51, 3) := by decide +kernel
theorem dX7_on_16 : decode cX7_on 16 = .ok (.ifCond .eq 15, 3) := by decide +kernel
theorem dX7_on_19 : decode cX7_on 19 = .ok (.iload_n 3, 1) := by decide +kernel
theorem dX7_on_20 : decode cX7_on 20 = .ok (.i2l, 1) := by decide +kernel
theorem dX7_on_21 : decode cX7_on 21 = .ok (.lconst 1, 1) := by decide +kernel
theorem dX7_on_22 : decode cX7_on 22 = .ok (.ldc2_w 82, 3) := by decide +kernel
theorem dX7_on_25 : decode cX7_on 25 = .ok (.invokestatic 51, 3) := by decide +kernel
theorem dX7_on_28 : decode cX7_on 28 = .ok (.ifCond .ne 10, 3) := by decide +kernel
theorem dX7_on_31 : decode cX7_on 31 = .ok (.aload_n 0, 1) := by decide +kernel
theorem dX7_on_32 : decode cX7_on 32 = .ok (.ldc 48, 2) := by decide +kernel
theorem dX7_on_34 : decode cX7_on 34 = .ok (.invokevirtual 78, 3) := by decide +kernel
theorem dX7_on_37 : decode cX7_on 37 = .ok (.ireturn, 1) := by decide +kernel
theorem dX7_on_38 : decode cX7_on 38 = .ok (.aload_n 0, 1) := by decide +kernel
theorem dX7_on_39 : decode cX7_on 39 = .ok (.invokevirtual 138, 3) := by decide +kernel
theorem dX7_on_42 : decode cX7_on 42 = .ok (.aload_n 0, 1) := by decide +kernel
theorem dX7_on_43 : decode cX7_on 43 = .ok (.iload_n 2, 1) := by decide +kernel
theorem dX7_on_44 : decode cX7_on 44 = .ok (.invokevirtual 132, 3) := by decide +kernel
theorem dX7_on_47 : decode cX7_on 47 = .ok (.aload_n 0, 1) := by decide +kernel
theorem dX7_on_48 : decode cX7_on 48 = .ok (.aload_n 0, 1) := by decide +kernel
theorem dX7_on_49 : decode cX7_on 49 = .ok (.getfield 7, 3) := by decide +kernel
theorem dX7_on_52 : decode cX7_on 52 = .ok (.iload_n 1, 1) := by decide +kernel
theorem dX7_on_53 : decode cX7_on 53 = .ok (.iload_n 3, 1) := by decide +kernel
theorem dX7_on_54 : decode cX7_on 54 = .ok (.invokestatic 44, 3) := by decide +kernel
theorem dX7_on_57 : decode cX7_on 57 = .ok (.iaload, 1) := by decide +kernel
theorem dX7_on_58 : decode cX7_on 58 = .ok (.invokevirtual 141, 3) := by decide +kernel
theorem dX7_on_61 : decode cX7_on 61 = .ok (.ireturn, 1) := by decide +kernel
set_option maxRecDepth 20000 in
theorem ggX7_dryIn_X7_laysAside : GoodIn wsX7_dryIn wsX7_laysAside := goodIn_r _ [6, 7, 8, 46, 47, 48, 49, 50, 51, 52, 53, 54, 55, 56, 57, 58, 59, 60, 61, 62, 63] rfl (by decide +kernel)
set_option maxRecDepth 20000 in
theorem gX7_dryIn_X7_laysAside : GoodIn wsX7_dryIn (wsV RX7 138 RX7 yX7_laysAside wsX7_laysAside) := goodIn_app (goodIn_of _ (by decide +kernel)) ggX7_dryIn_X7_laysAside
set_option maxRecDepth 20000 in
theorem ggX7_dryIn_X7_day : GoodIn wsX7_dryIn wsX7_day := goodIn_r _ [12, 1, 8, 13, 14, 5, 15, 16, 17, 18, 19, 20, 21, 22, 23, 24, 25, 26, 27, 28, 29, 30, 31, 32, 33, 34, 35, 36, 37, 38, 39, 40, 41, 46, 47, 48, 49, 50, 51, 52, 53, 54, 55, 56, 57, 58, 59, 60, 61, 62, 63] rfl (by decide +kernel)
set_option maxRecDepth 20000 in
theorem gX7_dryIn_X7_day : GoodIn wsX7_dryIn (wsV RX7 126 RX7 yX7_day wsX7_day) := goodIn_app (goodIn_of _ (by decide +kernel)) ggX7_dryIn_X7_day
set_option maxRecDepth 20000 in
theorem ggX7_dryIn_X7_takesBack : GoodIn wsX7_dryIn wsX7_takesBack := goodIn_r _ [45, 8, 7, 46, 47, 48, 49, 50, 51, 52, 53, 54, 55, 56, 57, 58, 59, 60, 61, 62, 63] rfl (by decide +kernel)
set_option maxRecDepth 20000 in
theorem gX7_dryIn_X7_takesBack : GoodIn wsX7_dryIn (wsV RX7 141 RX7 yX7_takesBack wsX7_takesBack) := goodIn_app (goodIn_of _ (by decide +kernel)) ggX7_dryIn_X7_takesBack
theorem dX7_dryIn_0 : decode cX7_dryIn 0 = .ok (.aload_n 0, 1) := by decide +kernel
theorem dX7_dryIn_1 : decode cX7_dryIn 1 = .ok (.invokevirtual 138, 3) := by decide +kernel
theorem dX7_dryIn_4 : decode cX7_dryIn 4 = .ok (.iconst 0, 1) := by decide +kernel
theorem dX7_dryIn_5 : decode cX7_dryIn 5 = .ok (.istore_n 3, 1) := by decide +kernel
theorem dX7_dryIn_6 : decode cX7_dryIn 6 = .ok (.iconst 0, 1) := by decide +kernel
theorem dX7_dryIn_7 : decode cX7_dryIn 7 = .ok (.istore 4, 2) := by decide +kernel
theorem dX7_dryIn_9 : decode cX7_dryIn 9 = .ok (.iload_n 3, 1) := by decide +kernel
theorem dX7_dryIn_10 : decode cX7_dryIn 10 = .ok (.iload_n 2, 1) := by decide +kernel
theorem dX7_dryIn_11 : decode cX7_dryIn 11 = .ok (.if_icmp .ge 37, 3) := by decide +kernel
theorem dX7_dryIn_14 : decode cX7_dryIn 14 = .ok (.iload 4, 2) := by decide +kernel
theorem dX7_dryIn_16 : decode cX7_dryIn 16 = .ok (.ifCond .ne 32, 3) := by decide +kernel
theorem dX7_dryIn_19 : decode cX7_dryIn 19 = .ok (.aload_n 0, 1) := by decide +kernel
theorem dX7_dryIn_20 : decode cX7_dryIn 20 = .ok (.invokevirtual 126, 3) := by decide +kernel
theorem dX7_dryIn_23 : decode cX7_dryIn 23 = .ok (.iinc 3 1, 3) := by decide +kernel
theorem dX7_dryIn_26 : decode cX7_dryIn 26 = .ok (.aload_n 0, 1) := by decide +kernel
theorem dX7_dryIn_27 : decode cX7_dryIn 27 = .ok (.getfield 118, 3) := by decide +kernel
theorem dX7_dryIn_30 : decode cX7_dryIn 30 = .ok (.iload_n 1, 1) := by decide +kernel
theorem dX7_dryIn_31 : decode cX7_dryIn 31 = .ok (.ishr, 1) := by decide +kernel
theorem dX7_dryIn_32 : decode cX7_dryIn 32 = .ok (.iconst 1, 1) := by decide +kernel
theorem dX7_dryIn_33 : decode cX7_dryIn 33 = .ok (.iand, 1) := by decide +kernel
theorem dX7_dryIn_34 : decode cX7_dryIn 34 = .ok (.iconst 1, 1) := by decide +kernel
theorem dX7_dryIn_35 : decode cX7_dryIn 35 = .ok (.if_icmp .ne 7, 3) := by decide +kernel
theorem dX7_dryIn_38 : decode cX7_dryIn 38 = .ok (.iconst 1, 1) := by decide +kernel
theorem dX7_dryIn_39 : decode cX7_dryIn 39 = .ok (.goto 4, 3) := by decide +kernel
theorem dX7_dryIn_42 : decode cX7_dryIn 42 = .ok (.iconst 0, 1) := by decide +kernel
theorem dX7_dryIn_43 : decode cX7_dryIn 43 = .ok (.istore 4, 2) := by decide +kernel
theorem dX7_dryIn_45 : decode cX7_dryIn 45 = .ok (.goto (-36), 3) := by decide +kernel
theorem dX7_dryIn_48 : decode cX7_dryIn 48 = .ok (.aload_n 0, 1) := by decide +kernel
theorem dX7_dryIn_49 : decode cX7_dryIn 49 = .ok (.iload 4, 2) := by decide +kernel
theorem dX7_dryIn_51 : decode cX7_dryIn 51 = .ok (.ifCond .eq 7, 3) := by decide +kernel
theorem dX7_dryIn_54 : decode cX7_dryIn 54 = .ok (.iload_n 3, 1) := by decide +kernel
theorem dX7_dryIn_55 : decode cX7_dryIn 55 = .ok (.goto 6, 3) := by decide +kernel
theorem dX7_dryIn_58 : decode cX7_dryIn 58 = .ok (.iload_n 2, 1) := by decide +kernel
theorem dX7_dryIn_59 : decode cX7_dryIn 59 = .ok (.iconst 1, 1) := by decide +kernel
theorem dX7_dryIn_60 : decode cX7_dryIn 60 = .ok (.iadd, 1) := by decide +kernel
theorem dX7_dryIn_61 : decode cX7_dryIn 61 = .ok (.invokevirtual 141, 3) := by decide +kernel
theorem dX7_dryIn_64 : decode cX7_dryIn 64 = .ok (.ireturn, 1) := by decide +kernel
set_option maxRecDepth 20000 in
theorem ggX7_dry_X7_isFarm : GoodIn wsX7_dry wsX7_isFarm := goodIn_r _ [6, 7, 8, 9, 5, 10] rfl (by decide +kernel)
set_option maxRecDepth 20000 in
theorem gX7_dry_X7_isFarm : GoodIn wsX7_dry (va_wsS RX7 68 yX7_isFarm wsX7_isFarm) := goodIn_app (goodIn_of _ (by decide +kernel)) ggX7_dry_X7_isFarm
set_option maxRecDepth 20000 in
theorem ggX7_dry_X7_finds : GoodIn wsX7_dry wsX7_finds := goodIn_r _ [14, 15, 1, 64, 65, 66, 67, 68, 69, 70, 71, 72, 73, 74, 75, 76, 77, 78, 79, 80, 81] rfl (by decide +kernel)
set_option maxRecDepth 20000 in
theorem gX7_dry_X7_finds : GoodIn wsX7_dry (wsV RX7 78 RX7 yX7_finds wsX7_finds) := goodIn_app (goodIn_of _ (by decide +kernel)) ggX7_dry_X7_finds
set_option maxRecDepth 20000 in
theorem ggX7_dry_X7_dryIn : GoodIn wsX7_dry wsX7_dryIn := goodIn_r _ [19, 20, 21, 22, 23, 5, 24, 25, 26, 27, 28, 29, 30, 31, 32, 33, 34, 35, 36, 37, 38, 39, 40, 41, 42, 43, 44, 45, 46, 47, 48, 49, 50, 51, 52, 53, 54, 55, 56, 57, 58, 59, 60, 61, 62, 63, 64, 65, 66, 67, 68, 69, 70, 71, 72, 73, 74, 75, 76, 77, 78, 79, 80, 81] rfl (by decide +kernel)
set_option maxRecDepth 20000 in
theorem gX7_dry_X7_dryIn : GoodIn wsX7_dry (wsV RX7 144 RX7 yX7_dryIn wsX7_dryIn) := goodIn_app (goodIn_of _ (by decide +kernel)) ggX7_dry_X7_dryIn
theorem dX7_dry_0 : decode cX7_dry 0 = .ok (.iload_n 1, 1) := by decide +kernel
theorem dX7_dry_1 : decode cX7_dry 1 = .ok (.invokestatic 68, 3) := by decide +kernel
theorem dX7_dry_4 : decode cX7_dry 4 = .ok (.ifCond .ne 10, 3) := by decide +kernel
theorem dX7_dry_7 : decode cX7_dry 7 = .ok (.aload_n 0, 1) := by decide +kernel
theorem dX7_dry_8 : decode cX7_dry 8 = .ok (.ldc 48, 2) := by decide +kernel
theorem dX7_dry_10 : decode cX7_dry 10 = .ok (.invokevirtual 78, 3) := by decide +kernel
theorem dX7_dry_13 : decode cX7_dry 13 = .ok (.ireturn, 1) := by decide +kernel
theorem dX7_dry_14 : decode cX7_dry 14 = .ok (.aload_n 0, 1) := by decide +kernel
theorem dX7_dry_15 : decode cX7_dry 15 = .ok (.iload_n 1, 1) := by decide +kernel
theorem dX7_dry_16 : decode cX7_dry 16 = .ok (.bipush 60, 2) := by decide +kernel
theorem dX7_dry_18 : decode cX7_dry 18 = .ok (.invokevirtual 144, 3) := by decide +kernel
theorem dX7_dry_21 : decode cX7_dry 21 = .ok (.istore_n 2, 1) := by decide +kernel
theorem dX7_dry_22 : decode cX7_dry 22 = .ok (.iload_n 2, 1) := by decide +kernel
theorem dX7_dry_23 : decode cX7_dry 23 = .ok (.bipush 60, 2) := by decide +kernel
theorem dX7_dry_25 : decode cX7_dry 25 = .ok (.if_icmp .le 12, 3) := by decide +kernel
theorem dX7_dry_28 : decode cX7_dry 28 = .ok (.aload_n 0, 1) := by decide +kernel
theorem dX7_dry_29 : decode cX7_dry 29 = .ok (.ldc 147, 2) := by decide +kernel
theorem dX7_dry_31 : decode cX7_dry 31 = .ok (.invokevirtual 78, 3) := by decide +kernel
theorem dX7_dry_34 : decode cX7_dry 34 = .ok (.goto 4, 3) := by decide +kernel
theorem dX7_dry_37 : decode cX7_dry 37 = .ok (.iload_n 2, 1) := by decide +kernel
theorem dX7_dry_38 : decode cX7_dry 38 = .ok (.ireturn, 1) := by decide +kernel
set_option maxRecDepth 20000 in
theorem ggX7_mostGiven_X7_its : GoodIn wsX7_mostGiven wsX7_its := goodIn_r _ [6, 1, 7, 8, 5, 9, 21, 22, 23, 24, 25, 26, 27, 28, 29, 30, 31, 32, 33, 34, 35, 36, 37, 38] rfl (by decide +kernel)
set_option maxRecDepth 20000 in
theorem gX7_mostGiven_X7_its : GoodIn wsX7_mostGiven (wsV RX7 93 RX7 yX7_its wsX7_its) := goodIn_app (goodIn_of _ (by decide +kernel)) ggX7_mostGiven_X7_its
set_option maxRecDepth 20000 in
theorem ggX7_mostGiven_X7_spot : GoodIn wsX7_mostGiven wsX7_spot := goodIn_r _ [9] rfl (by decide +kernel)
set_option maxRecDepth 20000 in
theorem gX7_mostGiven_X7_spot : GoodIn wsX7_mostGiven (va_wsS RX7 57 yX7_spot wsX7_spot) := goodIn_app (goodIn_of _ (by decide +kernel)) ggX7_mostGiven_X7_spot
set_option maxRecDepth 20000 in
theorem ggX7_mostGiven_X7_gives : GoodIn wsX7_mostGiven wsX7_gives := goodIn_r _ [13, 1, 2, 3, 4, 5, 6, 7, 8, 9, 14, 15, 16, 17, 18, 19, 20, 21, 22, 23, 24, 25, 26, 27, 28, 29, 30, 31, 32, 33, 34, 35, 36, 37, 38] rfl (by decide +kernel)
set_option maxRecDepth 20000 in
theorem gX7_mostGiven_X7_gives : GoodIn wsX7_mostGiven (wsV RX7 102 RX7 yX7_gives wsX7_gives) := goodIn_app (goodIn_of _ (by decide +kernel)) ggX7_mostGiven_X7_gives
theorem dX7_mostGiven_0 : decode cX7_mostGiven 0 = .ok (.aload_n 0, 1) := by decide +kernel
theorem dX7_mostGiven_1 : decode cX7_mostGiven 1 = .ok (.iload_n 1, 1) := by decide +kernel
theorem dX7_mostGiven_2 : decode cX7_mostGiven 2 = .ok (.iload_n 2, 1) := by decide +kernel
theorem dX7_mostGiven_3 : decode cX7_mostGiven 3 = .ok (.invokevirtual 93, 3) := by decide +kernel
theorem dX7_mostGiven_6 : decode cX7_mostGiven 6 = .ok (.istore 4, 2) := by decide +kernel
theorem dX7_mostGiven_8 : decode cX7_mostGiven 8 = .ok (.iconst 0, 1) := by decide +kernel
theorem dX7_mostGiven_9 : decode cX7_mostGiven 9 = .ok (.istore 5, 2) := by decide +kernel
theorem dX7_mostGiven_11 : decode cX7_mostGiven 11 = .ok (.iconst (-1), 1) := by decide +kernel
theorem dX7_mostGiven_12 : decode cX7_mostGiven 12 = .ok (.istore 6, 2) := by decide +kernel
theorem dX7_mostGiven_14 : decode cX7_mostGiven 14 = .ok (.iconst 0, 1) := by decide +kernel
theorem dX7_mostGiven_15 : decode cX7_mostGiven 15 = .ok (.istore 7, 2) := by decide +kernel
theorem dX7_mostGiven_17 : decode cX7_mostGiven 17 = .ok (.iload 7, 2) := by decide +kernel
theorem dX7_mostGiven_19 : decode cX7_mostGiven 19 = .ok (.iload_n 3, 1) := by decide +kernel
theorem dX7_mostGiven_20 : decode cX7_mostGiven 20 = .ok (.if_icmp .ge 60, 3) := by decide +kernel
theorem dX7_mostGiven_23 : decode cX7_mostGiven 23 = .ok (.aload_n 0, 1) := by decide +kernel
theorem dX7_mostGiven_24 : decode cX7_mostGiven 24 = .ok (.getfield 7, 3) := by decide +kernel
theorem dX7_mostGiven_27 : decode cX7_mostGiven 27 = .ok (.iload_n 1, 1) := by decide +kernel
theorem dX7_mostGiven_28 : decode cX7_mostGiven 28 = .ok (.iload_n 2, 1) := by decide +kernel
theorem dX7_mostGiven_29 : decode cX7_mostGiven 29 = .ok (.invokestatic 57, 3) := by decide +kernel
theorem dX7_mostGiven_32 : decode cX7_mostGiven 32 = .ok (.iload 7, 2) := by decide +kernel
theorem dX7_mostGiven_34 : decode cX7_mostGiven 34 = .ok (.iastore, 1) := by decide +kernel
theorem dX7_mostGiven_35 : decode cX7_mostGiven 35 = .ok (.aload_n 0, 1) := by decide +kernel
theorem dX7_mostGiven_36 : decode cX7_mostGiven 36 = .ok (.iload_n 1, 1) := by decide +kernel
theorem dX7_mostGiven_37 : decode cX7_mostGiven 37 = .ok (.invokevirtual 102, 3) := by decide +kernel
theorem dX7_mostGiven_40 : decode cX7_mostGiven 40 = .ok (.istore 8, 2) := by decide +kernel
theorem dX7_mostGiven_42 : decode cX7_mostGiven 42 = .ok (.iload 8, 2) := by decide +kernel
theorem dX7_mostGiven_44 : decode cX7_mostGiven 44 = .ok (.iload 6, 2) := by decide +kernel
theorem dX7_mostGiven_46 : decode cX7_mostGiven 46 = .ok (.if_icmp .le 8, 3) := by decide +kernel
theorem dX7_mostGiven_49 : decode cX7_mostGiven 49 = .ok (.iload 7, 2) := by decide +kernel
theorem dX7_mostGiven_51 : decode cX7_mostGiven 51 = .ok (.goto 5, 3) := by decide +kernel
theorem dX7_mostGiven_54 : decode cX7_mostGiven 54 = .ok (.iload 5, 2) := by decide +kernel
theorem dX7_mostGiven_56 : decode cX7_mostGiven 56 = .ok (.istore 5, 2) := by decide +kernel
theorem dX7_mostGiven_58 : decode cX7_mostGiven 58 = .ok (.iload 8, 2) := by decide +kernel
theorem dX7_mostGiven_60 : decode cX7_mostGiven 60 = .ok (.iload 6, 2) := by decide +kernel
theorem dX7_mostGiven_62 : decode cX7_mostGiven 62 = .ok (.if_icmp .le 8, 3) := by decide +kernel
theorem dX7_mostGiven_65 : decode cX7_mostGiven 65 = .ok (.iload 8, 2) := by decide +kernel
theorem dX7_mostGiven_67 : decode cX7_mostGiven 67 = .ok (.goto 5, 3) := by decide +kernel
theorem dX7_mostGiven_70 : decode cX7_mostGiven 70 = .ok (.iload 6, 2) := by decide +kernel
theorem dX7_mostGiven_72 : decode cX7_mostGiven 72 = .ok (.istore 6, 2) := by decide +kernel
theorem dX7_mostGiven_74 : decode cX7_mostGiven 74 = .ok (.iinc 7 1, 3) := by decide +kernel
theorem dX7_mostGiven_77 : decode cX7_mostGiven 77 = .ok (.goto (-60), 3) := by decide +kernel
theorem dX7_mostGiven_80 : decode cX7_mostGiven 80 = .ok (.aload_n 0, 1) := by decide +kernel
theorem dX7_mostGiven_81 : decode cX7_mostGiven 81 = .ok (.getfield 7, 3) := by decide +kernel
theorem dX7_mostGiven_84 : decode cX7_mostGiven 84 = .ok (.iload_n 1, 1) := by decide +kernel
theorem dX7_mostGiven_85 : decode cX7_mostGiven 85 = .ok (.iload_n 2, 1) := by decide +kernel
theorem dX7_mostGiven_86 : decode cX7_mostGiven 86 = .ok (.invokestatic 57, 3) := by decide +kernel
theorem dX7_mostGiven_89 : decode cX7_mostGiven 89 = .ok (.iload 4, 2) := by decide +kernel
theorem dX7_mostGiven_91 : decode cX7_mostGiven 91 = .ok (.iastore, 1) := by decide +kernel
theorem dX7_mostGiven_92 : decode cX7_mostGiven 92 = .ok (.iload 5, 2) := by decide +kernel
theorem dX7_mostGiven_94 : decode cX7_mostGiven 94 = .ok (.ireturn, 1) := by decide +kernel
set_option maxRecDepth 20000 in
theorem ggX7_favourite_X7_gives : GoodIn wsX7_favourite wsX7_gives := goodIn_r _ [7, 1, 8, 9, 10, 6, 11, 12, 13, 14, 15, 16, 17, 18, 19, 20, 21, 28, 29, 30, 31, 32, 33, 34, 35, 36, 37, 38, 39, 40, 41, 42, 43, 44, 45] rfl (by decide +kernel)
set_option maxRecDepth 20000 in
theorem gX7_favourite_X7_gives : GoodIn wsX7_favourite (wsV RX7 102 RX7 yX7_gives wsX7_gives) := goodIn_app (goodIn_of _ (by decide +kernel)) ggX7_favourite_X7_gives
set_option maxRecDepth 20000 in
theorem ggX7_favourite_X7_finds : GoodIn wsX7_favourite wsX7_finds := goodIn_r _ [25, 26, 27, 28, 29, 30, 31, 32, 33, 34, 35, 36, 37, 38, 39, 40, 41, 42, 43, 44, 45] rfl (by decide +kernel)
set_option maxRecDepth 20000 in
theorem gX7_favourite_X7_finds : GoodIn wsX7_favourite (wsV RX7 78 RX7 yX7_finds wsX7_finds) := goodIn_app (goodIn_of _ (by decide +kernel)) ggX7_favourite_X7_finds
theorem dX7_favourite_0 : decode cX7_favourite 0 = .ok (.iconst (-1), 1) := by decide +kernel
theorem dX7_favourite_1 : decode cX7_favourite 1 = .ok (.istore_n 1, 1) := by decide +kernel
theorem dX7_favourite_2 : decode cX7_favourite 2 = .ok (.iconst (-1), 1) := by decide +kernel
theorem dX7_favourite_3 : decode cX7_favourite 3 = .ok (.istore_n 2, 1) := by decide +kernel
theorem dX7_favourite_4 : decode cX7_favourite 4 = .ok (.iconst 0, 1) := by decide +kernel
theorem dX7_favourite_5 : decode cX7_favourite 5 = .ok (.istore_n 3, 1) := by decide +kernel
theorem dX7_favourite_6 : decode cX7_favourite 6 = .ok (.iload_n 3, 1) := by decide +kernel
theorem dX7_favourite_7 : decode cX7_favourite 7 = .ok (.aload_n 0, 1) := by decide +kernel
theorem dX7_favourite_8 : decode cX7_favourite 8 = .ok (.getfield 7, 3) := by decide +kernel
theorem dX7_favourite_11 : decode cX7_favourite 11 = .ok (.iconst 0, 1) := by decide +kernel
theorem dX7_favourite_12 : decode cX7_favourite 12 = .ok (.iaload, 1) := by decide +kernel
theorem dX7_favourite_13 : decode cX7_favourite 13 = .ok (.if_icmp .ge 41, 3) := by decide +kernel
theorem dX7_favourite_16 : decode cX7_favourite 16 = .ok (.aload_n 0, 1) := by decide +kernel
theorem dX7_favourite_17 : decode cX7_favourite 17 = .ok (.iload_n 3, 1) := by decide +kernel
theorem dX7_favourite_18 : decode cX7_favourite 18 = .ok (.invokevirtual 102, 3) := by decide +kernel
theorem dX7_favourite_21 : decode cX7_favourite 21 = .ok (.istore 4, 2) := by decide +kernel
theorem dX7_favourite_23 : decode cX7_favourite 23 = .ok (.iload 4, 2) := by decide +kernel
theorem dX7_favourite_25 : decode cX7_favourite 25 = .ok (.iload_n 2, 1) := by decide +kernel
theorem dX7_favourite_26 : decode cX7_favourite 26 = .ok (.if_icmp .le 7, 3) := by decide +kernel
theorem dX7_favourite_29 : decode cX7_favourite 29 = .ok (.iload_n 3, 1) := by decide +kernel
theorem dX7_favourite_30 : decode cX7_favourite 30 = .ok (.goto 4, 3) := by decide +kernel
theorem dX7_favourite_33 : decode cX7_favourite 33 = .ok (.iload_n 1, 1) := by decide +kernel
theorem dX7_favourite_34 : decode cX7_favourite 34 = .ok (.istore_n 1, 1) := by decide +kernel
theorem dX7_favourite_35 : decode cX7_favourite 35 = .ok (.iload 4, 2) := by decide +kernel
theorem dX7_favourite_37 : decode cX7_favourite 37 = .ok (.iload_n 2, 1) := by decide +kernel
theorem dX7_favourite_38 : decode cX7_favourite 38 = .ok (.if_icmp .le 8, 3) := by decide +kernel
theorem dX7_favourite_41 : decode cX7_favourite 41 = .ok (.iload 4, 2) := by decide +kernel
theorem dX7_favourite_43 : decode cX7_favourite 43 = .ok (.goto 4, 3) := by decide +kernel
theorem dX7_favourite_46 : decode cX7_favourite 46 = .ok (.iload_n 2, 1) := by decide +kernel
theorem dX7_favourite_47 : decode cX7_favourite 47 = .ok (.istore_n 2, 1) := by decide +kernel
theorem dX7_favourite_48 : decode cX7_favourite 48 = .ok (.iinc 3 1, 3) := by decide +kernel
theorem dX7_favourite_51 : decode cX7_favourite 51 = .ok (.goto (-45), 3) := by decide +kernel
theorem dX7_favourite_54 : decode cX7_favourite 54 = .ok (.iload_n 1, 1) := by decide +kernel
theorem dX7_favourite_55 : decode cX7_favourite 55 = .ok (.ifCond .ge 12, 3) := by decide +kernel
theorem dX7_favourite_58 : decode cX7_favourite 58 = .ok (.aload_n 0, 1) := by decide +kernel
theorem dX7_favourite_59 : decode cX7_favourite 59 = .ok (.ldc 147, 2) := by decide +kernel
theorem dX7_favourite_61 : decode cX7_favourite 61 = .ok (.invokevirtual 78, 3) := by decide +kernel
theorem dX7_favourite_64 : decode cX7_favourite 64 = .ok (.goto 4, 3) := by decide +kernel
theorem dX7_favourite_67 : decode cX7_favourite 67 = .ok (.iload_n 1, 1) := by decide +kernel
theorem dX7_favourite_68 : decode cX7_favourite 68 = .ok (.ireturn, 1) := by decide +kernel
set_option maxRecDepth 20000 in
theorem ggX7_dryOn_X7_together : GoodIn wsX7_dryOn wsX7_together := goodIn_r _ [5, 6, 7, 8, 4, 9, 54, 55, 56, 57, 58, 59, 60, 61, 62, 63, 64, 65, 66, 67, 68, 69, 70, 71] rfl (by decide +kernel)
set_option maxRecDepth 20000 in
theorem gX7_dryOn_X7_together : GoodIn wsX7_dryOn (wsV RX7 135 RX7 yX7_together wsX7_together) := goodIn_app (goodIn_of _ (by decide +kernel)) ggX7_dryOn_X7_together
set_option maxRecDepth 20000 in
theorem ggX7_dryOn_X7_laysAside : GoodIn wsX7_dryOn wsX7_laysAside := goodIn_r _ [13, 14, 6, 54, 55, 56, 57, 58, 59, 60, 61, 62, 63, 64, 65, 66, 67, 68, 69, 70, 71] rfl (by decide +kernel)
set_option maxRecDepth 20000 in
theorem gX7_dryOn_X7_laysAside : GoodIn wsX7_dryOn (wsV RX7 138 RX7 yX7_laysAside wsX7_laysAside) := goodIn_app (goodIn_of _ (by decide +kernel)) ggX7_dryOn_X7_laysAside
set_option maxRecDepth 20000 in
theorem ggX7_dryOn_X7_goesOn : GoodIn wsX7_dryOn wsX7_goesOn := goodIn_r _ [18, 19, 20, 21, 4, 22, 23, 6, 7, 8, 9, 24, 25, 26, 27, 28, 29, 30, 31, 32, 33, 34, 35, 36, 37, 38, 39, 40, 41, 42, 43, 44, 45, 46, 47, 48, 49, 54, 55, 56, 57, 58, 59, 60, 61, 62, 63, 64, 65, 66, 67, 68, 69, 70, 71] rfl (by decide +kernel)
set_option maxRecDepth 20000 in
theorem gX7_dryOn_X7_goesOn : GoodIn wsX7_dryOn (wsV RX7 132 RX7 yX7_goesOn wsX7_goesOn) := goodIn_app (goodIn_of _ (by decide +kernel)) ggX7_dryOn_X7_goesOn
set_option maxRecDepth 20000 in
theorem ggX7_dryOn_X7_takesBack : GoodIn wsX7_dryOn wsX7_takesBack := goodIn_r _ [53, 6, 14, 54, 55, 56, 57, 58, 59, 60, 61, 62, 63, 64, 65, 66, 67, 68, 69, 70, 71] rfl (by decide +kernel)
set_option maxRecDepth 20000 in
theorem gX7_dryOn_X7_takesBack : GoodIn wsX7_dryOn (wsV RX7 141 RX7 yX7_takesBack wsX7_takesBack) := goodIn_app (goodIn_of _ (by decide +kernel)) ggX7_dryOn_X7_takesBack
theorem dX7_dryOn_0 : decode cX7_dryOn 0 = .ok (.aload_n 0, 1) := by decide +kernel
theorem dX7_dryOn_1 : decode cX7_dryOn 1 = .ok (.iconst 2, 1) := by decide +kernel
theorem dX7_dryOn_2 : decode cX7_dryOn 2 = .ok (.invokevirtual 135, 3) := by decide +kernel
theorem dX7_dryOn_5 : decode cX7_dryOn 5 = .ok (.istore_n 2, 1) := by decide +kernel
theorem dX7_dryOn_6 : decode cX7_dryOn 6 = .ok (.aload_n 0, 1) := by decide +kernel
theorem dX7_dryOn_7 : decode cX7_dryOn 7 = .ok (.invokevirtual 138, 3) := by decide +kernel
theorem dX7_dryOn_10 : decode cX7_dryOn 10 = .ok (.aload_n 0, 1) := by decide +kernel
theorem dX7_dryOn_11 : decode cX7_dryOn 11 = .ok (.iload_n 1, 1) := by decide +kernel
theorem dX7_dryOn_12 : decode cX7_dryOn 12 = .ok (.invokevirtual 132, 3) := by decide +kernel
theorem dX7_dryOn_15 : decode cX7_dryOn 15 = .ok (.aload_n 0, 1) := by decide +kernel
theorem dX7_dryOn_16 : decode cX7_dryOn 16 = .ok (.aload_n 0, 1) := by decide +kernel
theorem dX7_dryOn_17 : decode cX7_dryOn 17 = .ok (.iconst 2, 1) := by decide +kernel
theorem dX7_dryOn_18 : decode cX7_dryOn 18 = .ok (.invokevirtual 135, 3) := by decide +kernel
theorem dX7_dryOn_21 : decode cX7_dryOn 21 = .ok (.iload_n 2, 1) := by decide +kernel
theorem dX7_dryOn_22 : decode cX7_dryOn 22 = .ok (.isub, 1) := by decide +kernel
theorem dX7_dryOn_23 : decode cX7_dryOn 23 = .ok (.invokevirtual 141, 3) := by decide +kernel
theorem dX7_dryOn_26 : decode cX7_dryOn 26 = .ok (.ireturn, 1) := by decide +kernel
set_option maxRecDepth 20000 in
theorem ggX7_isSoon_X7_in : GoodIn wsX7_isSoon wsX7_in := goodIn_r _ [5] rfl (by decide +kernel)
set_option maxRecDepth 20000 in
theorem gX7_isSoon_X7_in : GoodIn wsX7_isSoon (va_wsS RX7 51 yX7_in wsX7_in) := goodIn_app (goodIn_of _ (by decide +kernel)) ggX7_isSoon_X7_in
theorem dX7_isSoon_0 : decode cX7_isSoon 0 = .ok (.iload_n 0, 1) := by decide +kernel
theorem dX7_isSoon_1 : decode cX7_isSoon 1 = .ok (.i2l, 1) := by decide +kernel
theorem dX7_isSoon_2 : decode cX7_isSoon 2 = .ok (.lconst 1, 1) := by decide +kernel
theorem dX7_isSoon_3 : decode cX7_isSoon 3 = .ok (.ldc2_w 60, 3) := by decide +kernel
theorem dX7_isSoon_6 : decode cX7_isSoon 6 = .ok (.invokestatic 51, 3) := by decide +kernel
theorem dX7_isSoon_9 : decode cX7_isSoon 9 = .ok (.ireturn, 1) := by decide +kernel
set_option maxRecDepth 20000 in
theorem ggX7_leastDry_X7_dryOn : GoodIn wsX7_leastDry wsX7_dryOn := goodIn_r _ [6, 7, 8, 9, 5, 10, 1, 11, 12, 13, 14, 15, 16, 17, 18, 19, 20, 21, 22, 23, 24, 25, 26, 27, 28, 29, 30, 31, 32, 33, 34, 35, 36, 37, 38, 39, 40, 41, 42, 43, 44, 45, 46, 47, 48, 49, 50, 51, 52, 53, 54, 55, 56, 57, 58, 59, 60, 61, 62, 63, 64, 65, 66, 67, 68, 69, 70, 71, 72, 73, 74, 75] rfl (by decide +kernel)
set_option maxRecDepth 20000 in
theorem gX7_leastDry_X7_dryOn : GoodIn wsX7_leastDry (wsV RX7 148 RX7 yX7_dryOn wsX7_dryOn) := goodIn_app (goodIn_of _ (by decide +kernel)) ggX7_leastDry_X7_dryOn
theorem dX7_leastDry_0 : decode cX7_leastDry 0 = .ok (.aload_n 0, 1) := by decide +kernel
theorem dX7_leastDry_1 : decode cX7_leastDry 1 = .ok (.getfield 7, 3) := by decide +kernel
theorem dX7_leastDry_4 : decode cX7_leastDry 4 = .ok (.iload_n 1, 1) := by decide +kernel
theorem dX7_leastDry_5 : decode cX7_leastDry 5 = .ok (.iaload, 1) := by decide +kernel
theorem dX7_leastDry_6 : decode cX7_leastDry 6 = .ok (.istore 4, 2) := by decide +kernel
theorem dX7_leastDry_8 : decode cX7_leastDry 8 = .ok (.iconst (-1), 1) := by decide +kernel
theorem dX7_leastDry_9 : decode cX7_leastDry 9 = .ok (.istore 5, 2) := by decide +kernel
theorem dX7_leastDry_11 : decode cX7_leastDry 11 = .ok (.iconst 0, 1) := by decide +kernel
theorem dX7_leastDry_12 : decode cX7_leastDry 12 = .ok (.istore 6, 2) := by decide +kernel
theorem dX7_leastDry_14 : decode cX7_leastDry 14 = .ok (.iconst 0, 1) := by decide +kernel
theorem dX7_leastDry_15 : decode cX7_leastDry 15 = .ok (.istore 7, 2) := by decide +kernel
theorem dX7_leastDry_17 : decode cX7_leastDry 17 = .ok (.iload 7, 2) := by decide +kernel
theorem dX7_leastDry_19 : decode cX7_leastDry 19 = .ok (.iload_n 2, 1) := by decide +kernel
theorem dX7_leastDry_20 : decode cX7_leastDry 20 = .ok (.if_icmp .ge 61, 3) := by decide +kernel
theorem dX7_leastDry_23 : decode cX7_leastDry 23 = .ok (.aload_n 0, 1) := by decide +kernel
theorem dX7_leastDry_24 : decode cX7_leastDry 24 = .ok (.getfield 7, 3) := by decide +kernel
theorem dX7_leastDry_27 : decode cX7_leastDry 27 = .ok (.iload_n 1, 1) := by decide +kernel
theorem dX7_leastDry_28 : decode cX7_leastDry 28 = .ok (.iload 7, 2) := by decide +kernel
theorem dX7_leastDry_30 : decode cX7_leastDry 30 = .ok (.iastore, 1) := by decide +kernel
theorem dX7_leastDry_31 : decode cX7_leastDry 31 = .ok (.aload_n 0, 1) := by decide +kernel
theorem dX7_leastDry_32 : decode cX7_leastDry 32 = .ok (.iload_n 3, 1) := by decide +kernel
theorem dX7_leastDry_33 : decode cX7_leastDry 33 = .ok (.invokevirtual 148, 3) := by decide +kernel
theorem dX7_leastDry_36 : decode cX7_leastDry 36 = .ok (.istore 8, 2) := by decide +kernel
theorem dX7_leastDry_38 : decode cX7_leastDry 38 = .ok (.iload 5, 2) := by decide +kernel
theorem dX7_leastDry_40 : decode cX7_leastDry 40 = .ok (.ifCond .lt 10, 3) := by decide +kernel
theorem dX7_leastDry_43 : decode cX7_leastDry 43 = .ok (.iload 8, 2) := by decide +kernel
theorem dX7_leastDry_45 : decode cX7_leastDry 45 = .ok (.iload 6, 2) := by decide +kernel
theorem dX7_leastDry_47 : decode cX7_leastDry 47 = .ok (.if_icmp .ge 8, 3) := by decide +kernel
theorem dX7_leastDry_50 : decode cX7_leastDry 50 = .ok (.iload 7, 2) := by decide +kernel
theorem dX7_leastDry_52 : decode cX7_leastDry 52 = .ok (.goto 5, 3) := by decide +kernel
theorem dX7_leastDry_55 : decode cX7_leastDry 55 = .ok (.iload 5, 2) := by decide +kernel
theorem dX7_leastDry_57 : decode cX7_leastDry 57 = .ok (.istore 5, 2) := by decide +kernel
theorem dX7_leastDry_59 : decode cX7_leastDry 59 = .ok (.iload 5, 2) := by decide +kernel
theorem dX7_leastDry_61 : decode cX7_leastDry 61 = .ok (.iload 7, 2) := by decide +kernel
theorem dX7_leastDry_63 : decode cX7_leastDry 63 = .ok (.if_icmp .ne 8, 3) := by decide +kernel
theorem dX7_leastDry_66 : decode cX7_leastDry 66 = .ok (.iload 8, 2) := by decide +kernel
theorem dX7_leastDry_68 : decode cX7_leastDry 68 = .ok (.goto 5, 3) := by decide +kernel
theorem dX7_leastDry_71 : decode cX7_leastDry 71 = .ok (.iload 6, 2) := by decide +kernel
theorem dX7_leastDry_73 : decode cX7_leastDry 73 = .ok (.istore 6, 2) := by decide +kernel
theorem dX7_leastDry_75 : decode cX7_leastDry 75 = .ok (.iinc 7 1, 3) := by decide +kernel
theorem dX7_leastDry_78 : decode cX7_leastDry 78 = .ok (.goto (-61), 3) := by decide +kernel
theorem dX7_leastDry_81 : decode cX7_leastDry 81 = .ok (.aload_n 0, 1) := by decide +kernel
theorem dX7_leastDry_82 : decode cX7_leastDry 82 = .ok (.getfield 7, 3) := by decide +kernel
theorem dX7_leastDry_85 : decode cX7_leastDry 85 = .ok (.iload_n 1, 1) := by decide +kernel
theorem dX7_leastDry_86 : decode cX7_leastDry 86 = .ok (.iload 4, 2) := by decide +kernel
theorem dX7_leastDry_88 : decode cX7_leastDry 88 = .ok (.iastore, 1) := by decide +kernel
theorem dX7_leastDry_89 : decode cX7_leastDry 89 = .ok (.iload 5, 2) := by decide +kernel
theorem dX7_leastDry_91 : decode cX7_leastDry 91 = .ok (.ireturn, 1) := by decide +kernel
set_option maxRecDepth 20000 in
theorem ggX7_send_X7_isFarm : GoodIn wsX7_send wsX7_isFarm := goodIn_r _ [7, 8, 9, 10, 6, 11] rfl (by decide +kernel)
set_option maxRecDepth 20000 in
theorem gX7_send_X7_isFarm : GoodIn wsX7_send (va_wsS RX7 68 yX7_isFarm wsX7_isFarm) := goodIn_app (goodIn_of _ (by decide +kernel)) ggX7_send_X7_isFarm
set_option maxRecDepth 20000 in
theorem ggX7_send_X7_isSoon : GoodIn wsX7_send wsX7_isSoon := goodIn_r _ [14, 15, 9, 10, 6, 11] rfl (by decide +kernel)
set_option maxRecDepth 20000 in
theorem gX7_send_X7_isSoon : GoodIn wsX7_send (va_wsS RX7 151 yX7_isSoon wsX7_isSoon) := goodIn_app (goodIn_of _ (by decide +kernel)) ggX7_send_X7_isSoon
set_option maxRecDepth 20000 in
theorem ggX7_send_X7_finds : GoodIn wsX7_send wsX7_finds := goodIn_r _ [19, 20, 1, 80, 81, 82, 83, 84, 85, 86, 87, 88, 89, 90, 91, 92, 93, 94, 95, 96, 97] rfl (by decide +kernel)
set_option maxRecDepth 20000 in
theorem gX7_send_X7_finds : GoodIn wsX7_send (wsV RX7 78 RX7 yX7_finds wsX7_finds) := goodIn_app (goodIn_of _ (by decide +kernel)) ggX7_send_X7_finds
set_option maxRecDepth 20000 in
theorem ggX7_send_X7_field : GoodIn wsX7_send wsX7_field := goodIn_r _ [23] rfl (by decide +kernel)
set_option maxRecDepth 20000 in
theorem gX7_send_X7_field : GoodIn wsX7_send (va_wsS RX7 44 yX7_field wsX7_field) := goodIn_app (goodIn_of _ (by decide +kernel)) ggX7_send_X7_field
set_option maxRecDepth 20000 in
theorem ggX7_send_X7_leastDry : GoodIn wsX7_send wsX7_leastDry := goodIn_r _ [27, 2, 28, 29, 30, 6, 31, 32, 33, 34, 35, 21, 22, 23, 36, 37, 38, 39, 40, 41, 42, 43, 44, 45, 46, 47, 48, 49, 50, 51, 52, 53, 54, 55, 56, 57, 58, 59, 60, 61, 62, 63, 64, 65, 66, 67, 68, 69, 70, 71, 72, 73, 74, 75, 76, 77, 78, 79, 80, 81, 82, 83, 84, 85, 86, 87, 88, 89, 90, 91, 92, 93, 94, 95, 96, 97] rfl (by decide +kernel)
set_option maxRecDepth 20000 in
theorem gX7_send_X7_leastDry : GoodIn wsX7_send (wsV RX7 154 RX7 yX7_leastDry wsX7_leastDry) := goodIn_app (goodIn_of _ (by decide +kernel)) ggX7_send_X7_leastDry
theorem dX7_send_0 : decode cX7_send 0 = .ok (.iload_n 1, 1) := by decide +kernel
theorem dX7_send_1 : decode cX7_send 1 = .ok (.invokestatic 68, 3) := by decide +kernel
theorem dX7_send_4 : decode cX7_send 4 = .ok (.ifCond .eq 10, 3) := by decide +kernel
theorem dX7_send_7 : decode cX7_send 7 = .ok (.iload_n 2, 1) := by decide +kernel
theorem dX7_send_8 : decode cX7_send 8 = .ok (.invokestatic 151, 3) := by decide +kernel
theorem dX7_send_11 : decode cX7_send 11 = .ok (.ifCond .ne 10, 3) := by decide +kernel
theorem dX7_send_14 : decode cX7_send 14 = .ok (.aload_n 0, 1) := by decide +kernel
theorem dX7_send_15 : decode cX7_send 15 = .ok (.ldc 48, 2) := by decide +kernel
theorem dX7_send_17 : decode cX7_send 17 = .ok (.invokevirtual 78, 3) := by decide +kernel
theorem dX7_send_20 : decode cX7_send 20 = .ok (.ireturn, 1) := by decide +kernel
theorem dX7_send_21 : decode cX7_send 21 = .ok (.aload_n 0, 1) := by decide +kernel
theorem dX7_send_22 : decode cX7_send 22 = .ok (.iload_n 1, 1) := by decide +kernel
theorem dX7_send_23 : decode cX7_send 23 = .ok (.iconst 3, 1) := by decide +kernel
theorem dX7_send_24 : decode cX7_send 24 = .ok (.invokestatic 44, 3) := by decide +kernel
theorem dX7_send_27 : decode cX7_send 27 = .ok (.aload_n 0, 1) := by decide +kernel
theorem dX7_send_28 : decode cX7_send 28 = .ok (.getfield 7, 3) := by decide +kernel
theorem dX7_send_31 : decode cX7_send 31 = .ok (.iconst 0, 1) := by decide +kernel
theorem dX7_send_32 : decode cX7_send 32 = .ok (.iaload, 1) := by decide +kernel
theorem dX7_send_33 : decode cX7_send 33 = .ok (.iload_n 2, 1) := by decide +kernel
theorem dX7_send_34 : decode cX7_send 34 = .ok (.invokevirtual 154, 3) := by decide +kernel
theorem dX7_send_37 : decode cX7_send 37 = .ok (.istore_n 3, 1) := by decide +kernel
theorem dX7_send_38 : decode cX7_send 38 = .ok (.iload_n 3, 1) := by decide +kernel
theorem dX7_send_39 : decode cX7_send 39 = .ok (.ifCond .ge 12, 3) := by decide +kernel
theorem dX7_send_42 : decode cX7_send 42 = .ok (.aload_n 0, 1) := by decide +kernel
theorem dX7_send_43 : decode cX7_send 43 = .ok (.ldc 147, 2) := by decide +kernel
theorem dX7_send_45 : decode cX7_send 45 = .ok (.invokevirtual 78, 3) := by decide +kernel
theorem dX7_send_48 : decode cX7_send 48 = .ok (.goto 4, 3) := by decide +kernel
theorem dX7_send_51 : decode cX7_send 51 = .ok (.iload_n 3, 1) := by decide +kernel
theorem dX7_send_52 : decode cX7_send 52 = .ok (.ireturn, 1) := by decide +kernel
set_option maxRecDepth 20000 in
theorem ggX7_round_X7_in : GoodIn wsX7_round wsX7_in := goodIn_r _ [9] rfl (by decide +kernel)
set_option maxRecDepth 20000 in
theorem gX7_round_X7_in : GoodIn wsX7_round (va_wsS RX7 51 yX7_in wsX7_in) := goodIn_app (goodIn_of _ (by decide +kernel)) ggX7_round_X7_in
set_option maxRecDepth 20000 in
theorem ggX7_round_X7_finds : GoodIn wsX7_round wsX7_finds := goodIn_r _ [13, 14, 2, 70, 71, 72, 73, 74, 75, 76, 77, 78, 79, 80, 81, 82, 83, 84, 85, 86, 87] rfl (by decide +kernel)
set_option maxRecDepth 20000 in
theorem gX7_round_X7_finds : GoodIn wsX7_round (wsV RX7 78 RX7 yX7_finds wsX7_finds) := goodIn_app (goodIn_of _ (by decide +kernel)) ggX7_round_X7_finds
set_option maxRecDepth 20000 in
theorem ggX7_round_X7_field : GoodIn wsX7_round wsX7_field := goodIn_r _ [17] rfl (by decide +kernel)
set_option maxRecDepth 20000 in
theorem gX7_round_X7_field : GoodIn wsX7_round (va_wsS RX7 44 yX7_field wsX7_field) := goodIn_app (goodIn_of _ (by decide +kernel)) ggX7_round_X7_field
set_option maxRecDepth 20000 in
theorem ggX7_round_X7_dryOn : GoodIn wsX7_round wsX7_dryOn := goodIn_r _ [21, 22, 23, 24, 8, 25, 4, 15, 16, 17, 26, 27, 28, 29, 30, 31, 32, 33, 34, 35, 36, 37, 38, 39, 40, 41, 42, 43, 44, 45, 46, 47, 48, 49, 50, 51, 52, 53, 54, 55, 56, 57, 58, 59, 60, 61, 62, 63, 64, 65, 66, 67, 68, 69, 70, 71, 72, 73, 74, 75, 76, 77, 78, 79, 80, 81, 82, 83, 84, 85, 86, 87] rfl (by decide +kernel)
set_option maxRecDepth 20000 in
theorem gX7_round_X7_dryOn : GoodIn wsX7_round (wsV RX7 148 RX7 yX7_dryOn wsX7_dryOn) := goodIn_app (goodIn_of _ (by decide +kernel)) ggX7_round_X7_dryOn
theorem dX7_round_0 : decode cX7_round 0 = .ok (.iload_n 1, 1) := by decide +kernel
theorem dX7_round_1 : decode cX7_round 1 = .ok (.i2l, 1) := by decide +kernel
theorem dX7_round_2 : decode cX7_round 2 = .ok (.lconst 1, 1) := by decide +kernel
theorem dX7_round_3 : decode cX7_round 3 = .ok (.ldc2_w 113, 3) := by decide +kernel
theorem dX7_round_6 : decode cX7_round 6 = .ok (.invokestatic 51, 3) := by decide +kernel
theorem dX7_round_9 : decode cX7_round 9 = .ok (.ifCond .ne 10, 3) := by decide +kernel
theorem dX7_round_12 : decode cX7_round 12 = .ok (.aload_n 0, 1) := by decide +kernel
theorem dX7_round_13 : decode cX7_round 13 = .ok (.ldc 48, 2) := by decide +kernel
theorem dX7_round_15 : decode cX7_round 15 = .ok (.invokevirtual 78, 3) := by decide +kernel
theorem dX7_round_18 : decode cX7_round 18 = .ok (.ireturn, 1) := by decide +kernel
theorem dX7_round_19 : decode cX7_round 19 = .ok (.iconst 0, 1) := by decide +kernel
theorem dX7_round_20 : decode cX7_round 20 = .ok (.istore_n 2, 1) := by decide +kernel
theorem dX7_round_21 : decode cX7_round 21 = .ok (.iload_n 2, 1) := by decide +kernel
theorem dX7_round_22 : decode cX7_round 22 = .ok (.iconst 4, 1) := by decide +kernel
theorem dX7_round_23 : decode cX7_round 23 = .ok (.if_icmp .ge 25, 3) := by decide +kernel
theorem dX7_round_26 : decode cX7_round 26 = .ok (.aload_n 0, 1) := by decide +kernel
theorem dX7_round_27 : decode cX7_round 27 = .ok (.getfield 25, 3) := by decide +kernel
theorem dX7_round_30 : decode cX7_round 30 = .ok (.iload_n 2, 1) := by decide +kernel
theorem dX7_round_31 : decode cX7_round 31 = .ok (.aload_n 0, 1) := by decide +kernel
theorem dX7_round_32 : decode cX7_round 32 = .ok (.getfield 7, 3) := by decide +kernel
theorem dX7_round_35 : decode cX7_round 35 = .ok (.iload_n 2, 1) := by decide +kernel
theorem dX7_round_36 : decode cX7_round 36 = .ok (.iconst 3, 1) := by decide +kernel
theorem dX7_round_37 : decode cX7_round 37 = .ok (.invokestatic 44, 3) := by decide +kernel
theorem dX7_round_40 : decode cX7_round 40 = .ok (.iaload, 1) := by decide +kernel
theorem dX7_round_41 : decode cX7_round 41 = .ok (.iastore, 1) := by decide +kernel
theorem dX7_round_42 : decode cX7_round 42 = .ok (.iinc 2 1, 3) := by decide +kernel
theorem dX7_round_45 : decode cX7_round 45 = .ok (.goto (-24), 3) := by decide +kernel
theorem dX7_round_48 : decode cX7_round 48 = .ok (.iconst (-1), 1) := by decide +kernel
theorem dX7_round_49 : decode cX7_round 49 = .ok (.istore_n 2, 1) := by decide +kernel
theorem dX7_round_50 : decode cX7_round 50 = .ok (.iconst 0, 1) := by decide +kernel
theorem dX7_round_51 : decode cX7_round 51 = .ok (.istore_n 3, 1) := by decide +kernel
theorem dX7_round_52 : decode cX7_round 52 = .ok (.aload_n 0, 1) := by decide +kernel
theorem dX7_round_53 : decode cX7_round 53 = .ok (.getfield 7, 3) := by decide +kernel
theorem dX7_round_56 : decode cX7_round 56 = .ok (.iconst 0, 1) := by decide +kernel
theorem dX7_round_57 : decode cX7_round 57 = .ok (.iaload, 1) := by decide +kernel
theorem dX7_round_58 : decode cX7_round 58 = .ok (.istore 4, 2) := by decide +kernel
theorem dX7_round_60 : decode cX7_round 60 = .ok (.iconst 0, 1) := by decide +kernel
theorem dX7_round_61 : decode cX7_round 61 = .ok (.istore 5, 2) := by decide +kernel
theorem dX7_round_63 : decode cX7_round 63 = .ok (.iload 5, 2) := by decide +kernel
theorem dX7_round_65 : decode cX7_round 65 = .ok (.iload 4, 2) := by decide +kernel
theorem dX7_round_67 : decode cX7_round 67 = .ok (.iload 4, 2) := by decide +kernel
theorem dX7_round_69 : decode cX7_round 69 = .ok (.imul, 1) := by decide +kernel
theorem dX7_round_70 : decode cX7_round 70 = .ok (.iload 4, 2) := by decide +kernel
theorem dX7_round_72 : decode cX7_round 72 = .ok (.imul, 1) := by decide +kernel
theorem dX7_round_73 : decode cX7_round 73 = .ok (.iload 4, 2) := by decide +kernel
theorem dX7_round_75 : decode cX7_round 75 = .ok (.imul, 1) := by decide +kernel
theorem dX7_round_76 : decode cX7_round 76 = .ok (.if_icmp .ge 209, 3) := by decide +kernel
theorem dX7_round_79 : decode cX7_round 79 = .ok (.iload 5, 2) := by decide +kernel
theorem dX7_round_81 : decode cX7_round 81 = .ok (.iload 4, 2) := by decide +kernel
theorem dX7_round_83 : decode cX7_round 83 = .ok (.iload 4, 2) := by decide +kernel
theorem dX7_round_85 : decode cX7_round 85 = .ok (.imul, 1) := by decide +kernel
theorem dX7_round_86 : decode cX7_round 86 = .ok (.iload 4, 2) := by decide +kernel
theorem dX7_round_88 : decode cX7_round 88 = .ok (.imul, 1) := by decide +kernel
theorem dX7_round_89 : decode cX7_round 89 = .ok (.idiv, 1) := by decide +kernel
theorem dX7_round_90 : decode cX7_round 90 = .ok (.istore 6, 2) := by decide +kernel
theorem dX7_round_92 : decode cX7_round 92 = .ok (.iload 5, 2) := by decide +kernel
theorem dX7_round_94 : decode cX7_round 94 = .ok (.iload 4, 2) := by decide +kernel
theorem dX7_round_96 : decode cX7_round 96 = .ok (.iload 4, 2) := by decide +kernel
theorem dX7_round_98 : decode cX7_round 98 = .ok (.imul, 1) := by decide +kernel
theorem dX7_round_99 : decode cX7_round 99 = .ok (.idiv, 1) := by decide +kernel
theorem dX7_round_100 : decode cX7_round 100 = .ok (.iload 4, 2) := by decide +kernel
theorem dX7_round_102 : decode cX7_round 102 = .ok (.irem, 1) := by decide +kernel
theorem dX7_round_103 : decode cX7_round 103 = .ok (.istore 7, 2) := by decide +kernel
theorem dX7_round_105 : decode cX7_round 105 = .ok (.iload 5, 2) := by decide +kernel
theorem dX7_round_107 : decode cX7_round 107 = .ok (.iload 4, 2) := by decide +kernel
theorem dX7_round_109 : decode cX7_round 109 = .ok (.idiv, 1) := by decide +kernel
theorem dX7_round_110 : decode cX7_round 110 = .ok (.iload 4, 2) := by decide +kernel
theorem dX7_round_112 : decode cX7_round 112 = .ok (.irem, 1) := by decide +kernel
theorem dX7_round_113 : decode cX7_round 113 = .ok (.istore 8, 2) := by decide +kernel
theorem dX7_round_115 : decode cX7_round 115 = .ok (.iload 5, 2) := by decide +kernel
theorem dX7_round_117 : decode cX7_round 117 = .ok (.iload 4, 2) := by decide +kernel
theorem dX7_round_119 : decode cX7_round 119 = .ok (.irem, 1) := by decide +kernel
theorem dX7_round_120 : decode cX7_round 120 = .ok (.istore 9, 2) := by decide +kernel
theorem dX7_round_122 : decode cX7_round 122 = .ok (.iload 6, 2) := by decide +kernel
theorem dX7_round_124 : decode cX7_round 124 = .ok (.iload 7, 2) := by decide +kernel
theorem dX7_round_126 : decode cX7_round 126 = .ok (.if_icmp .eq 153, 3) := by decide +kernel
theorem dX7_round_129 : decode cX7_round 129 = .ok (.iload 6, 2) := by decide +kernel
theorem dX7_round_131 : decode cX7_round 131 = .ok (.iload 8, 2) := by decide +kernel
theorem dX7_round_133 : decode cX7_round 133 = .ok (.if_icmp .eq 146, 3) := by decide +kernel
theorem dX7_round_136 : decode cX7_round 136 = .ok (.iload 6, 2) := by decide +kernel
theorem dX7_round_138 : decode cX7_round 138 = .ok (.iload 9, 2) := by decide +kernel
theorem dX7_round_140 : decode cX7_round 140 = .ok (.if_icmp .eq 139, 3) := by decide +kernel
theorem dX7_round_143 : decode cX7_round 143 = .ok (.iload 7, 2) := by decide +kernel
theorem dX7_round_145 : decode cX7_round 145 = .ok (.iload 8, 2) := by decide +kernel
theorem dX7_round_147 : decode cX7_round 147 = .ok (.if_icmp .eq 132, 3) := by decide +kernel
theorem dX7_round_150 : decode cX7_round 150 = .ok (.iload 7, 2) := by decide +kernel
theorem dX7_round_152 : decode cX7_round 152 = .ok (.iload 9, 2) := by decide +kernel
theorem dX7_round_154 : decode cX7_round 154 = .ok (.if_icmp .eq 125, 3) := by decide +kernel
theorem dX7_round_157 : decode cX7_round 157 = .ok (.iload 8, 2) := by decide +kernel
theorem dX7_round_159 : decode cX7_round 159 = .ok (.iload 9, 2) := by decide +kernel
theorem dX7_round_161 : decode cX7_round 161 = .ok (.if_icmp .eq 118, 3) := by decide +kernel
theorem dX7_round_164 : decode cX7_round 164 = .ok (.aload_n 0, 1) := by decide +kernel
theorem dX7_round_165 : decode cX7_round 165 = .ok (.getfield 7, 3) := by decide +kernel
theorem dX7_round_168 : decode cX7_round 168 = .ok (.iconst 0, 1) := by decide +kernel
theorem dX7_round_169 : decode cX7_round 169 = .ok (.iconst 3, 1) := by decide +kernel
theorem dX7_round_170 : decode cX7_round 170 = .ok (.invokestatic 44, 3) := by decide +kernel
theorem dX7_round_173 : decode cX7_round 173 = .ok (.iload 6, 2) := by decide +kernel
theorem dX7_round_175 : decode cX7_round 175 = .ok (.iastore, 1) := by decide +kernel
theorem dX7_round_176 : decode cX7_round 176 = .ok (.aload_n 0, 1) := by decide +kernel
theorem dX7_round_177 : decode cX7_round 177 = .ok (.getfield 7, 3) := by decide +kernel
theorem dX7_round_180 : decode cX7_round 180 = .ok (.iconst 1, 1) := by decide +kernel
theorem dX7_round_181 : decode cX7_round 181 = .ok (.iconst 3, 1) := by decide +kernel
theorem dX7_round_182 : decode cX7_round 182 = .ok (.invokestatic 44, 3) := by decide +kernel
theorem dX7_round_185 : decode cX7_round 185 = .ok (.iload 7, 2) := by decide +kernel
theorem dX7_round_187 : decode cX7_round 187 = .ok (.iastore, 1) := by decide +kernel
theorem dX7_round_188 : decode cX7_round 188 = .ok (.aload_n 0, 1) := by decide +kernel
theorem dX7_round_189 : decode cX7_round 189 = .ok (.getfield 7, 3) := by decide +kernel
theorem dX7_round_192 : decode cX7_round 192 = .ok (.iconst 2, 1) := by decide +kernel
theorem dX7_round_193 : decode cX7_round 193 = .ok (.iconst 3, 1) := by decide +kernel
theorem dX7_round_194 : decode cX7_round 194 = .ok (.invokestatic 44, 3) := by decide +kernel
theorem dX7_round_197 : decode cX7_round 197 = .ok (.iload 8, 2) := by decide +kernel
theorem dX7_round_199 : decode cX7_round 199 = .ok (.iastore, 1) := by decide +kernel
theorem dX7_round_200 : decode cX7_round 200 = .ok (.aload_n 0, 1) := by decide +kernel
theorem dX7_round_201 : decode cX7_round 201 = .ok (.getfield 7, 3) := by decide +kernel
theorem dX7_round_204 : decode cX7_round 204 = .ok (.iconst 3, 1) := by decide +kernel
theorem dX7_round_205 : decode cX7_round 205 = .ok (.iconst 3, 1) := by decide +kernel
theorem dX7_round_206 : decode cX7_round 206 = .ok (.invokestatic 44, 3) := by decide +kernel
theorem dX7_round_209 : decode cX7_round 209 = .ok (.iload 9, 2) := by decide +kernel
theorem dX7_round_211 : decode cX7_round 211 = .ok (.iastore, 1) := by decide +kernel
theorem dX7_round_212 : decode cX7_round 212 = .ok (.aload_n 0, 1) := by decide +kernel
theorem dX7_round_213 : decode cX7_round 213 = .ok (.iload_n 1, 1) := by decide +kernel
theorem dX7_round_214 : decode cX7_round 214 = .ok (.invokevirtual 148, 3) := by decide +kernel
theorem dX7_round_217 : decode cX7_round 217 = .ok (.istore 10, 2) := by decide +kernel
theorem dX7_round_219 : decode cX7_round 219 = .ok (.iload_n 2, 1) := by decide +kernel
theorem dX7_round_220 : decode cX7_round 220 = .ok (.ifCond .lt 9, 3) := by decide +kernel
theorem dX7_round_223 : decode cX7_round 223 = .ok (.iload 10, 2) := by decide +kernel
theorem dX7_round_225 : decode cX7_round 225 = .ok (.iload_n 3, 1) := by decide +kernel
theorem dX7_round_226 : decode cX7_round 226 = .ok (.if_icmp .ge 7, 3) := by decide +kernel
theorem dX7_round_229 : decode cX7_round 229 = .ok (.iconst 1, 1) := by decide +kernel
theorem dX7_round_230 : decode cX7_round 230 = .ok (.goto 4, 3) := by decide +kernel
theorem dX7_round_233 : decode cX7_round 233 = .ok (.iconst 0, 1) := by decide +kernel
theorem dX7_round_234 : decode cX7_round 234 = .ok (.istore 11, 2) := by decide +kernel
theorem dX7_round_236 : decode cX7_round 236 = .ok (.iload 11, 2) := by decide +kernel
theorem dX7_round_238 : decode cX7_round 238 = .ok (.ifCond .eq 27, 3) := by decide +kernel
theorem dX7_round_241 : decode cX7_round 241 = .ok (.iload 6, 2) := by decide +kernel
theorem dX7_round_243 : decode cX7_round 243 = .ok (.bipush 10, 2) := by decide +kernel
theorem dX7_round_245 : decode cX7_round 245 = .ok (.iload 7, 2) := by decide +kernel
theorem dX7_round_247 : decode cX7_round 247 = .ok (.imul, 1) := by decide +kernel
theorem dX7_round_248 : decode cX7_round 248 = .ok (.iadd, 1) := by decide +kernel
theorem dX7_round_249 : decode cX7_round 249 = .ok (.bipush 100, 2) := by decide +kernel
theorem dX7_round_251 : decode cX7_round 251 = .ok (.iload 8, 2) := by decide +kernel
theorem dX7_round_253 : decode cX7_round 253 = .ok (.imul, 1) := by decide +kernel
theorem dX7_round_254 : decode cX7_round 254 = .ok (.iadd, 1) := by decide +kernel
theorem dX7_round_255 : decode cX7_round 255 = .ok (.sipush 1000, 3) := by decide +kernel
theorem dX7_round_258 : decode cX7_round 258 = .ok (.iload 9, 2) := by decide +kernel
theorem dX7_round_260 : decode cX7_round 260 = .ok (.imul, 1) := by decide +kernel
theorem dX7_round_261 : decode cX7_round 261 = .ok (.iadd, 1) := by decide +kernel
theorem dX7_round_262 : decode cX7_round 262 = .ok (.goto 4, 3) := by decide +kernel
theorem dX7_round_265 : decode cX7_round 265 = .ok (.iload_n 2, 1) := by decide +kernel
theorem dX7_round_266 : decode cX7_round 266 = .ok (.istore_n 2, 1) := by decide +kernel
theorem dX7_round_267 : decode cX7_round 267 = .ok (.iload 11, 2) := by decide +kernel
theorem dX7_round_269 : decode cX7_round 269 = .ok (.ifCond .eq 8, 3) := by decide +kernel
theorem dX7_round_272 : decode cX7_round 272 = .ok (.iload 10, 2) := by decide +kernel
theorem dX7_round_274 : decode cX7_round 274 = .ok (.goto 4, 3) := by decide +kernel
theorem dX7_round_277 : decode cX7_round 277 = .ok (.iload_n 3, 1) := by decide +kernel
theorem dX7_round_278 : decode cX7_round 278 = .ok (.istore_n 3, 1) := by decide +kernel
theorem dX7_round_279 : decode cX7_round 279 = .ok (.iinc 5 1, 3) := by decide +kernel
theorem dX7_round_282 : decode cX7_round 282 = .ok (.goto (-219), 3) := by decide +kernel
theorem dX7_round_285 : decode cX7_round 285 = .ok (.iconst 0, 1) := by decide +kernel
theorem dX7_round_286 : decode cX7_round 286 = .ok (.istore 5, 2) := by decide +kernel
theorem dX7_round_288 : decode cX7_round 288 = .ok (.iload 5, 2) := by decide +kernel
theorem dX7_round_290 : decode cX7_round 290 = .ok (.iconst 4, 1) := by decide +kernel
theorem dX7_round_291 : decode cX7_round 291 = .ok (.if_icmp .ge 27, 3) := by decide +kernel
theorem dX7_round_294 : decode cX7_round 294 = .ok (.aload_n 0, 1) := by decide +kernel
theorem dX7_round_295 : decode cX7_round 295 = .ok (.getfield 7, 3) := by decide +kernel
theorem dX7_round_298 : decode cX7_round 298 = .ok (.iload 5, 2) := by decide +kernel
theorem dX7_round_300 : decode cX7_round 300 = .ok (.iconst 3, 1) := by decide +kernel
theorem dX7_round_301 : decode cX7_round 301 = .ok (.invokestatic 44, 3) := by decide +kernel
theorem dX7_round_304 : decode cX7_round 304 = .ok (.aload_n 0, 1) := by decide +kernel
theorem dX7_round_305 : decode cX7_round 305 = .ok (.getfield 25, 3) := by decide +kernel
theorem dX7_round_308 : decode cX7_round 308 = .ok (.iload 5, 2) := by decide +kernel
theorem dX7_round_310 : decode cX7_round 310 = .ok (.iaload, 1) := by decide +kernel
theorem dX7_round_311 : decode cX7_round 311 = .ok (.iastore, 1) := by decide +kernel
theorem dX7_round_312 : decode cX7_round 312 = .ok (.iinc 5 1, 3) := by decide +kernel
theorem dX7_round_315 : decode cX7_round 315 = .ok (.goto (-27), 3) := by decide +kernel
theorem dX7_round_318 : decode cX7_round 318 = .ok (.iload_n 2, 1) := by decide +kernel
theorem dX7_round_319 : decode cX7_round 319 = .ok (.ifCond .ge 12, 3) := by decide +kernel
theorem dX7_round_322 : decode cX7_round 322 = .ok (.aload_n 0, 1) := by decide +kernel
theorem dX7_round_323 : decode cX7_round 323 = .ok (.ldc 147, 2) := by decide +kernel
theorem dX7_round_325 : decode cX7_round 325 = .ok (.invokevirtual 78, 3) := by decide +kernel
theorem dX7_round_328 : decode cX7_round 328 = .ok (.goto 4, 3) := by decide +kernel
theorem dX7_round_331 : decode cX7_round 331 = .ok (.iload_n 2, 1) := by decide +kernel
theorem dX7_round_332 : decode cX7_round 332 = .ok (.ireturn, 1) := by decide +kernel
set_option maxRecDepth 20000 in
theorem ggX7_deeds_X7_isPerson : GoodIn wsX7_deeds wsX7_isPerson := goodIn_r _ [9, 3, 10, 11, 8, 12, 32, 33, 34, 35, 36, 37, 38, 39, 40, 41, 42, 43, 44, 45, 46, 47, 48, 49] rfl (by decide +kernel)
set_option maxRecDepth 20000 in
theorem gX7_deeds_X7_isPerson : GoodIn wsX7_deeds (wsV RX7 64 RX7 yX7_isPerson wsX7_isPerson) := goodIn_app (goodIn_of _ (by decide +kernel)) ggX7_deeds_X7_isPerson
set_option maxRecDepth 20000 in
theorem ggX7_deeds_X7_in : GoodIn wsX7_deeds wsX7_in := goodIn_r _ [12] rfl (by decide +kernel)
set_option maxRecDepth 20000 in
theorem gX7_deeds_X7_in : GoodIn wsX7_deeds (va_wsS RX7 51 yX7_in wsX7_in) := goodIn_app (goodIn_of _ (by decide +kernel)) ggX7_deeds_X7_in
set_option maxRecDepth 20000 in
theorem ggX7_deeds_X7_finds : GoodIn wsX7_deeds wsX7_finds := goodIn_r _ [16, 17, 2, 32, 33, 34, 35, 36, 37, 38, 39, 40, 41, 42, 43, 44, 45, 46, 47, 48, 49] rfl (by decide +kernel)
set_option maxRecDepth 20000 in
theorem gX7_deeds_X7_finds : GoodIn wsX7_deeds (wsV RX7 78 RX7 yX7_finds wsX7_finds) := goodIn_app (goodIn_of _ (by decide +kernel)) ggX7_deeds_X7_finds
set_option maxRecDepth 20000 in
theorem ggX7_deeds_X7_its : GoodIn wsX7_deeds wsX7_its := goodIn_r _ [21, 3, 22, 23, 8, 24, 32, 33, 34, 35, 36, 37, 38, 39, 40, 41, 42, 43, 44, 45, 46, 47, 48, 49] rfl (by decide +kernel)
set_option maxRecDepth 20000 in
theorem gX7_deeds_X7_its : GoodIn wsX7_deeds (wsV RX7 93 RX7 yX7_its wsX7_its) := goodIn_app (goodIn_of _ (by decide +kernel)) ggX7_deeds_X7_its
set_option maxRecDepth 20000 in
theorem ggX7_deeds_X7_spot : GoodIn wsX7_deeds wsX7_spot := goodIn_r _ [24] rfl (by decide +kernel)
set_option maxRecDepth 20000 in
theorem gX7_deeds_X7_spot : GoodIn wsX7_deeds (va_wsS RX7 57 yX7_spot wsX7_spot) := goodIn_app (goodIn_of _ (by decide +kernel)) ggX7_deeds_X7_spot
set_option maxRecDepth 20000 in
theorem ggX7_deeds_X7_deserves : GoodIn wsX7_deeds wsX7_deserves := goodIn_r _ [28, 18, 19, 20, 8, 21, 3, 22, 23, 24, 29, 30, 31, 32, 33, 34, 35, 36, 37, 38, 39, 40, 41, 42, 43, 44, 45, 46, 47, 48, 49] rfl (by decide +kernel)
set_option maxRecDepth 20000 in
theorem gX7_deeds_X7_deserves : GoodIn wsX7_deeds (wsV RX7 99 RX7 yX7_deserves wsX7_deserves) := goodIn_app (goodIn_of _ (by decide +kernel)) ggX7_deeds_X7_deserves
set_option maxRecDepth 20000 in
theorem ggX7_deeds_X7_ones : GoodIn wsX7_deeds wsX7_ones := goodIn_r _ [31] rfl (by decide +kernel)
set_option maxRecDepth 20000 in
theorem gX7_deeds_X7_ones : GoodIn wsX7_deeds (va_wsS RX7 96 yX7_ones wsX7_ones) := goodIn_app (goodIn_of _ (by decide +kernel)) ggX7_deeds_X7_ones
theorem dX7_deeds_0 : decode cX7_deeds 0 = .ok (.aload_n 0, 1) := by decide +kernel
theorem dX7_deeds_1 : decode cX7_deeds 1 = .ok (.iload_n 1, 1) := by decide +kernel
theorem dX7_deeds_2 : decode cX7_deeds 2 = .ok (.invokevirtual 64, 3) := by decide +kernel
theorem dX7_deeds_5 : decode cX7_deeds 5 = .ok (.ifCond .eq 15, 3) := by decide +kernel
theorem dX7_deeds_8 : decode cX7_deeds 8 = .ok (.iload_n 2, 1) := by decide +kernel
theorem dX7_deeds_9 : decode cX7_deeds 9 = .ok (.i2l, 1) := by decide +kernel
theorem dX7_deeds_10 : decode cX7_deeds 10 = .ok (.lconst 0, 1) := by decide +kernel
theorem dX7_deeds_11 : decode cX7_deeds 11 = .ok (.ldc2_w 158, 3) := by decide +kernel
theorem dX7_deeds_14 : decode cX7_deeds 14 = .ok (.invokestatic 51, 3) := by decide +kernel
theorem dX7_deeds_17 : decode cX7_deeds 17 = .ok (.ifCond .ne 10, 3) := by decide +kernel
theorem dX7_deeds_20 : decode cX7_deeds 20 = .ok (.aload_n 0, 1) := by decide +kernel
theorem dX7_deeds_21 : decode cX7_deeds 21 = .ok (.ldc 48, 2) := by decide +kernel
theorem dX7_deeds_23 : decode cX7_deeds 23 = .ok (.invokevirtual 78, 3) := by decide +kernel
theorem dX7_deeds_26 : decode cX7_deeds 26 = .ok (.ireturn, 1) := by decide +kernel
theorem dX7_deeds_27 : decode cX7_deeds 27 = .ok (.aload_n 0, 1) := by decide +kernel
theorem dX7_deeds_28 : decode cX7_deeds 28 = .ok (.iload_n 1, 1) := by decide +kernel
theorem dX7_deeds_29 : decode cX7_deeds 29 = .ok (.iconst 1, 1) := by decide +kernel
theorem dX7_deeds_30 : decode cX7_deeds 30 = .ok (.invokevirtual 93, 3) := by decide +kernel
theorem dX7_deeds_33 : decode cX7_deeds 33 = .ok (.istore_n 3, 1) := by decide +kernel
theorem dX7_deeds_34 : decode cX7_deeds 34 = .ok (.iconst (-1), 1) := by decide +kernel
theorem dX7_deeds_35 : decode cX7_deeds 35 = .ok (.istore 4, 2) := by decide +kernel
theorem dX7_deeds_37 : decode cX7_deeds 37 = .ok (.iconst 0, 1) := by decide +kernel
theorem dX7_deeds_38 : decode cX7_deeds 38 = .ok (.istore 5, 2) := by decide +kernel
theorem dX7_deeds_40 : decode cX7_deeds 40 = .ok (.iload 5, 2) := by decide +kernel
theorem dX7_deeds_42 : decode cX7_deeds 42 = .ok (.sipush 256, 3) := by decide +kernel
theorem dX7_deeds_45 : decode cX7_deeds 45 = .ok (.if_icmp .ge 57, 3) := by decide +kernel
theorem dX7_deeds_48 : decode cX7_deeds 48 = .ok (.aload_n 0, 1) := by decide +kernel
theorem dX7_deeds_49 : decode cX7_deeds 49 = .ok (.getfield 7, 3) := by decide +kernel
theorem dX7_deeds_52 : decode cX7_deeds 52 = .ok (.iload_n 1, 1) := by decide +kernel
theorem dX7_deeds_53 : decode cX7_deeds 53 = .ok (.iconst 1, 1) := by decide +kernel
theorem dX7_deeds_54 : decode cX7_deeds 54 = .ok (.invokestatic 57, 3) := by decide +kernel
theorem dX7_deeds_57 : decode cX7_deeds 57 = .ok (.iload 5, 2) := by decide +kernel
theorem dX7_deeds_59 : decode cX7_deeds 59 = .ok (.iastore, 1) := by decide +kernel
theorem dX7_deeds_60 : decode cX7_deeds 60 = .ok (.aload_n 0, 1) := by decide +kernel
theorem dX7_deeds_61 : decode cX7_deeds 61 = .ok (.iload_n 1, 1) := by decide +kernel
theorem dX7_deeds_62 : decode cX7_deeds 62 = .ok (.invokevirtual 99, 3) := by decide +kernel
theorem dX7_deeds_65 : decode cX7_deeds 65 = .ok (.iload_n 2, 1) := by decide +kernel
theorem dX7_deeds_66 : decode cX7_deeds 66 = .ok (.if_icmp .lt 26, 3) := by decide +kernel
theorem dX7_deeds_69 : decode cX7_deeds 69 = .ok (.iload 4, 2) := by decide +kernel
theorem dX7_deeds_71 : decode cX7_deeds 71 = .ok (.ifCond .lt 16, 3) := by decide +kernel
theorem dX7_deeds_74 : decode cX7_deeds 74 = .ok (.iload 5, 2) := by decide +kernel
theorem dX7_deeds_76 : decode cX7_deeds 76 = .ok (.invokestatic 96, 3) := by decide +kernel
theorem dX7_deeds_79 : decode cX7_deeds 79 = .ok (.iload 4, 2) := by decide +kernel
theorem dX7_deeds_81 : decode cX7_deeds 81 = .ok (.invokestatic 96, 3) := by decide +kernel
theorem dX7_deeds_84 : decode cX7_deeds 84 = .ok (.if_icmp .ge 8, 3) := by decide +kernel
theorem dX7_deeds_87 : decode cX7_deeds 87 = .ok (.iload 5, 2) := by decide +kernel
theorem dX7_deeds_89 : decode cX7_deeds 89 = .ok (.goto 5, 3) := by decide +kernel
theorem dX7_deeds_92 : decode cX7_deeds 92 = .ok (.iload 4, 2) := by decide +kernel
theorem dX7_deeds_94 : decode cX7_deeds 94 = .ok (.istore 4, 2) := by decide +kernel
theorem dX7_deeds_96 : decode cX7_deeds 96 = .ok (.iinc 5 1, 3) := by decide +kernel
theorem dX7_deeds_99 : decode cX7_deeds 99 = .ok (.goto (-59), 3) := by decide +kernel
theorem dX7_deeds_102 : decode cX7_deeds 102 = .ok (.aload_n 0, 1) := by decide +kernel
theorem dX7_deeds_103 : decode cX7_deeds 103 = .ok (.getfield 7, 3) := by decide +kernel
theorem dX7_deeds_106 : decode cX7_deeds 106 = .ok (.iload_n 1, 1) := by decide +kernel
theorem dX7_deeds_107 : decode cX7_deeds 107 = .ok (.iconst 1, 1) := by decide +kernel
theorem dX7_deeds_108 : decode cX7_deeds 108 = .ok (.invokestatic 57, 3) := by decide +kernel
theorem dX7_deeds_111 : decode cX7_deeds 111 = .ok (.iload_n 3, 1) := by decide +kernel
theorem dX7_deeds_112 : decode cX7_deeds 112 = .ok (.iastore, 1) := by decide +kernel
theorem dX7_deeds_113 : decode cX7_deeds 113 = .ok (.iload 4, 2) := by decide +kernel
theorem dX7_deeds_115 : decode cX7_deeds 115 = .ok (.ifCond .ge 12, 3) := by decide +kernel
theorem dX7_deeds_118 : decode cX7_deeds 118 = .ok (.aload_n 0, 1) := by decide +kernel
theorem dX7_deeds_119 : decode cX7_deeds 119 = .ok (.ldc 147, 2) := by decide +kernel
theorem dX7_deeds_121 : decode cX7_deeds 121 = .ok (.invokevirtual 78, 3) := by decide +kernel
theorem dX7_deeds_124 : decode cX7_deeds 124 = .ok (.goto 5, 3) := by decide +kernel
theorem dX7_deeds_127 : decode cX7_deeds 127 = .ok (.iload 4, 2) := by decide +kernel
theorem dX7_deeds_129 : decode cX7_deeds 129 = .ok (.ireturn, 1) := by decide +kernel
set_option maxRecDepth 20000 in
theorem ggX7_step_X7_isPerson : GoodIn wsX7_step wsX7_isPerson := goodIn_r _ [7, 1, 8, 9, 6, 10, 38, 39, 40, 41, 42, 43, 44, 45, 46, 47, 48, 49, 50, 51, 52, 53, 54, 55] rfl (by decide +kernel)
set_option maxRecDepth 20000 in
theorem gX7_step_X7_isPerson : GoodIn wsX7_step (wsV RX7 64 RX7 yX7_isPerson wsX7_isPerson) := goodIn_app (goodIn_of _ (by decide +kernel)) ggX7_step_X7_isPerson
set_option maxRecDepth 20000 in
theorem ggX7_step_X7_mostGiven : GoodIn wsX7_step wsX7_mostGiven := goodIn_r _ [14, 1, 15, 16, 17, 6, 18, 19, 20, 21, 22, 23, 24, 25, 26, 27, 28, 29, 30, 31, 32, 38, 39, 40, 41, 42, 43, 44, 45, 46, 47, 48, 49, 50, 51, 52, 53, 54, 55] rfl (by decide +kernel)
set_option maxRecDepth 20000 in
theorem gX7_step_X7_mostGiven : GoodIn wsX7_step (wsV RX7 160 RX7 yX7_mostGiven wsX7_mostGiven) := goodIn_app (goodIn_of _ (by decide +kernel)) ggX7_step_X7_mostGiven
set_option maxRecDepth 20000 in
theorem ggX7_step_X7_finds : GoodIn wsX7_step wsX7_finds := goodIn_r _ [36, 37, 2, 38, 39, 40, 41, 42, 43, 44, 45, 46, 47, 48, 49, 50, 51, 52, 53, 54, 55] rfl (by decide +kernel)
set_option maxRecDepth 20000 in
theorem gX7_step_X7_finds : GoodIn wsX7_step (wsV RX7 78 RX7 yX7_finds wsX7_finds) := goodIn_app (goodIn_of _ (by decide +kernel)) ggX7_step_X7_finds
theorem dX7_step_0 : decode cX7_step 0 = .ok (.aload_n 0, 1) := by decide +kernel
theorem dX7_step_1 : decode cX7_step 1 = .ok (.iload_n 1, 1) := by decide +kernel
theorem dX7_step_2 : decode cX7_step 2 = .ok (.invokevirtual 64, 3) := by decide +kernel
theorem dX7_step_5 : decode cX7_step 5 = .ok (.ifCond .eq 18, 3) := by decide +kernel
theorem dX7_step_8 : decode cX7_step 8 = .ok (.aload_n 0, 1) := by decide +kernel
theorem dX7_step_9 : decode cX7_step 9 = .ok (.iload_n 1, 1) := by decide +kernel
theorem dX7_step_10 : decode cX7_step 10 = .ok (.iconst 2, 1) := by decide +kernel
theorem dX7_step_11 : decode cX7_step 11 = .ok (.aload_n 0, 1) := by decide +kernel
theorem dX7_step_12 : decode cX7_step 12 = .ok (.getfield 7, 3) := by decide +kernel
theorem dX7_step_15 : decode cX7_step 15 = .ok (.iconst 0, 1) := by decide +kernel
theorem dX7_step_16 : decode cX7_step 16 = .ok (.iaload, 1) := by decide +kernel
theorem dX7_step_17 : decode cX7_step 17 = .ok (.invokevirtual 160, 3) := by decide +kernel
theorem dX7_step_20 : decode cX7_step 20 = .ok (.goto 9, 3) := by decide +kernel
theorem dX7_step_23 : decode cX7_step 23 = .ok (.aload_n 0, 1) := by decide +kernel
theorem dX7_step_24 : decode cX7_step 24 = .ok (.ldc 48, 2) := by decide +kernel
theorem dX7_step_26 : decode cX7_step 26 = .ok (.invokevirtual 78, 3) := by decide +kernel
theorem dX7_step_29 : decode cX7_step 29 = .ok (.ireturn, 1) := by decide +kernel
set_option maxRecDepth 20000 in
theorem ggX7_kind_X7_isPerson : GoodIn wsX7_kind wsX7_isPerson := goodIn_r _ [6, 7, 8, 9, 5, 10, 38, 39, 40, 41, 42, 43, 44, 45, 46, 47, 48, 49, 50, 51, 52, 53, 54, 55] rfl (by decide +kernel)
set_option maxRecDepth 20000 in
theorem gX7_kind_X7_isPerson : GoodIn wsX7_kind (wsV RX7 64 RX7 yX7_isPerson wsX7_isPerson) := goodIn_app (goodIn_of _ (by decide +kernel)) ggX7_kind_X7_isPerson
set_option maxRecDepth 20000 in
theorem ggX7_kind_X7_mostGiven : GoodIn wsX7_kind wsX7_mostGiven := goodIn_r _ [14, 7, 15, 16, 17, 5, 18, 19, 20, 21, 22, 23, 24, 25, 26, 27, 28, 29, 30, 31, 32, 38, 39, 40, 41, 42, 43, 44, 45, 46, 47, 48, 49, 50, 51, 52, 53, 54, 55] rfl (by decide +kernel)
set_option maxRecDepth 20000 in
theorem gX7_kind_X7_mostGiven : GoodIn wsX7_kind (wsV RX7 160 RX7 yX7_mostGiven wsX7_mostGiven) := goodIn_app (goodIn_of _ (by decide +kernel)) ggX7_kind_X7_mostGiven
set_option maxRecDepth 20000 in
theorem ggX7_kind_X7_finds : GoodIn wsX7_kind wsX7_finds := goodIn_r _ [36, 37, 1, 38, 39, 40, 41, 42, 43, 44, 45, 46, 47, 48, 49, 50, 51, 52, 53, 54, 55] rfl (by decide +kernel)
set_option maxRecDepth 20000 in
theorem gX7_kind_X7_finds : GoodIn wsX7_kind (wsV RX7 78 RX7 yX7_finds wsX7_finds) := goodIn_app (goodIn_of _ (by decide +kernel)) ggX7_kind_X7_finds
theorem dX7_kind_0 : decode cX7_kind 0 = .ok (.aload_n 0, 1) := by decide +kernel
theorem dX7_kind_1 : decode cX7_kind 1 = .ok (.iload_n 1, 1) := by decide +kernel
theorem dX7_kind_2 : decode cX7_kind 2 = .ok (.invokevirtual 64, 3) := by decide +kernel
theorem dX7_kind_5 : decode cX7_kind 5 = .ok (.ifCond .eq 14, 3) := by decide +kernel
theorem dX7_kind_8 : decode cX7_kind 8 = .ok (.aload_n 0, 1) := by decide +kernel
theorem dX7_kind_9 : decode cX7_kind 9 = .ok (.iload_n 1, 1) := by decide +kernel
theorem dX7_kind_10 : decode cX7_kind 10 = .ok (.iconst 0, 1) := by decide +kernel
theorem dX7_kind_11 : decode cX7_kind 11 = .ok (.bipush 6, 2) := by decide +kernel
theorem dX7_kind_13 : decode cX7_kind 13 = .ok (.invokevirtual 160, 3) := by decide +kernel
theorem dX7_kind_16 : decode cX7_kind 16 = .ok (.goto 9, 3) := by decide +kernel
theorem dX7_kind_19 : decode cX7_kind 19 = .ok (.aload_n 0, 1) := by decide +kernel
theorem dX7_kind_20 : decode cX7_kind 20 = .ok (.ldc 48, 2) := by decide +kernel
theorem dX7_kind_22 : decode cX7_kind 22 = .ok (.invokevirtual 78, 3) := by decide +kernel
theorem dX7_kind_25 : decode cX7_kind 25 = .ok (.ireturn, 1) := by decide +kernel
set_option maxRecDepth 20000 in
theorem ggX7_spring_X7_isSoon : GoodIn wsX7_spring wsX7_isSoon := goodIn_r _ [5, 6, 7, 8, 4, 9] rfl (by decide +kernel)
set_option maxRecDepth 20000 in
theorem gX7_spring_X7_isSoon : GoodIn wsX7_spring (va_wsS RX7 151 yX7_isSoon wsX7_isSoon) := goodIn_app (goodIn_of _ (by decide +kernel)) ggX7_spring_X7_isSoon
set_option maxRecDepth 20000 in
theorem ggX7_spring_X7_leastDry : GoodIn wsX7_spring wsX7_leastDry := goodIn_r _ [13, 14, 15, 16, 17, 4, 18, 19, 20, 21, 22, 23, 24, 25, 26, 27, 28, 29, 30, 31, 32, 33, 34, 35, 36, 37, 38, 39, 40, 41, 42, 43, 44, 45, 46, 47, 48, 49, 50, 51, 52, 53, 54, 55, 56, 57, 58, 59, 60, 61, 62, 63, 64, 65, 66, 67, 68, 69, 75, 76, 77, 78, 79, 80, 81, 82, 83, 84, 85, 86, 87, 88, 89, 90, 91, 92] rfl (by decide +kernel)
set_option maxRecDepth 20000 in
theorem gX7_spring_X7_leastDry : GoodIn wsX7_spring (wsV RX7 154 RX7 yX7_leastDry wsX7_leastDry) := goodIn_app (goodIn_of _ (by decide +kernel)) ggX7_spring_X7_leastDry
set_option maxRecDepth 20000 in
theorem ggX7_spring_X7_finds : GoodIn wsX7_spring wsX7_finds := goodIn_r _ [73, 74, 1, 75, 76, 77, 78, 79, 80, 81, 82, 83, 84, 85, 86, 87, 88, 89, 90, 91, 92] rfl (by decide +kernel)
set_option maxRecDepth 20000 in
theorem gX7_spring_X7_finds : GoodIn wsX7_spring (wsV RX7 78 RX7 yX7_finds wsX7_finds) := goodIn_app (goodIn_of _ (by decide +kernel)) ggX7_spring_X7_finds
theorem dX7_spring_0 : decode cX7_spring 0 = .ok (.iload_n 1, 1) := by decide +kernel
theorem dX7_spring_1 : decode cX7_spring 1 = .ok (.invokestatic 151, 3) := by decide +kernel
theorem dX7_spring_4 : decode cX7_spring 4 = .ok (.ifCond .eq 14, 3) := by decide +kernel
theorem dX7_spring_7 : decode cX7_spring 7 = .ok (.aload_n 0, 1) := by decide +kernel
theorem dX7_spring_8 : decode cX7_spring 8 = .ok (.iconst 3, 1) := by decide +kernel
theorem dX7_spring_9 : decode cX7_spring 9 = .ok (.bipush 100, 2) := by decide +kernel
theorem dX7_spring_11 : decode cX7_spring 11 = .ok (.iload_n 1, 1) := by decide +kernel
theorem dX7_spring_12 : decode cX7_spring 12 = .ok (.invokevirtual 154, 3) := by decide +kernel
theorem dX7_spring_15 : decode cX7_spring 15 = .ok (.goto 9, 3) := by decide +kernel
theorem dX7_spring_18 : decode cX7_spring 18 = .ok (.aload_n 0, 1) := by decide +kernel
theorem dX7_spring_19 : decode cX7_spring 19 = .ok (.ldc 48, 2) := by decide +kernel
theorem dX7_spring_21 : decode cX7_spring 21 = .ok (.invokevirtual 78, 3) := by decide +kernel
theorem dX7_spring_24 : decode cX7_spring 24 = .ok (.ireturn, 1) := by decide +kernel
set_option maxRecDepth 20000 in
theorem ggX7_enough_X7_isFarm : GoodIn wsX7_enough wsX7_isFarm := goodIn_r _ [7, 8, 9, 10, 6, 11] rfl (by decide +kernel)
set_option maxRecDepth 20000 in
theorem gX7_enough_X7_isFarm : GoodIn wsX7_enough (va_wsS RX7 68 yX7_isFarm wsX7_isFarm) := goodIn_app (goodIn_of _ (by decide +kernel)) ggX7_enough_X7_isFarm
set_option maxRecDepth 20000 in
theorem ggX7_enough_X7_isSoon : GoodIn wsX7_enough wsX7_isSoon := goodIn_r _ [14, 15, 9, 10, 6, 11] rfl (by decide +kernel)
set_option maxRecDepth 20000 in
theorem gX7_enough_X7_isSoon : GoodIn wsX7_enough (va_wsS RX7 151 yX7_isSoon wsX7_isSoon) := goodIn_app (goodIn_of _ (by decide +kernel)) ggX7_enough_X7_isSoon
set_option maxRecDepth 20000 in
theorem ggX7_enough_X7_finds : GoodIn wsX7_enough wsX7_finds := goodIn_r _ [19, 20, 1, 68, 69, 70, 71, 72, 73, 74, 75, 76, 77, 78, 79, 80, 81, 82, 83, 84, 85] rfl (by decide +kernel)
set_option maxRecDepth 20000 in
theorem gX7_enough_X7_finds : GoodIn wsX7_enough (wsV RX7 78 RX7 yX7_finds wsX7_finds) := goodIn_app (goodIn_of _ (by decide +kernel)) ggX7_enough_X7_finds
set_option maxRecDepth 20000 in
theorem ggX7_enough_X7_field : GoodIn wsX7_enough wsX7_field := goodIn_r _ [23] rfl (by decide +kernel)
set_option maxRecDepth 20000 in
theorem gX7_enough_X7_field : GoodIn wsX7_enough (va_wsS RX7 44 yX7_field wsX7_field) := goodIn_app (goodIn_of _ (by decide +kernel)) ggX7_enough_X7_field
set_option maxRecDepth 20000 in
theorem ggX7_enough_X7_isNeverDry : GoodIn wsX7_enough wsX7_isNeverDry := goodIn_r _ [27, 28, 29, 30, 31, 6, 32, 33, 2, 34, 35, 36, 37, 21, 22, 23, 38, 39, 40, 41, 42, 43, 44, 45, 46, 47, 48, 49, 50, 51, 52, 53, 54, 55, 56, 57, 58, 59, 60, 61, 62, 63, 64, 65, 66, 67, 68, 69, 70, 71, 72, 73, 74, 75, 76, 77, 78, 79, 80, 81, 82, 83, 84, 85] rfl (by decide +kernel)
set_option maxRecDepth 20000 in
theorem gX7_enough_X7_isNeverDry : GoodIn wsX7_enough (wsV RX7 163 RX7 yX7_isNeverDry wsX7_isNeverDry) := goodIn_app (goodIn_of _ (by decide +kernel)) ggX7_enough_X7_isNeverDry
theorem dX7_enough_0 : decode cX7_enough 0 = .ok (.iload_n 1, 1) := by decide +kernel
theorem dX7_enough_1 : decode cX7_enough 1 = .ok (.invokestatic 68, 3) := by decide +kernel
theorem dX7_enough_4 : decode cX7_enough 4 = .ok (.ifCond .eq 10, 3) := by decide +kernel
theorem dX7_enough_7 : decode cX7_enough 7 = .ok (.iload_n 2, 1) := by decide +kernel
theorem dX7_enough_8 : decode cX7_enough 8 = .ok (.invokestatic 151, 3) := by decide +kernel
theorem dX7_enough_11 : decode cX7_enough 11 = .ok (.ifCond .ne 10, 3) := by decide +kernel
theorem dX7_enough_14 : decode cX7_enough 14 = .ok (.aload_n 0, 1) := by decide +kernel
theorem dX7_enough_15 : decode cX7_enough 15 = .ok (.ldc 48, 2) := by decide +kernel
theorem dX7_enough_17 : decode cX7_enough 17 = .ok (.invokevirtual 78, 3) := by decide +kernel
theorem dX7_enough_20 : decode cX7_enough 20 = .ok (.ireturn, 1) := by decide +kernel
theorem dX7_enough_21 : decode cX7_enough 21 = .ok (.aload_n 0, 1) := by decide +kernel
theorem dX7_enough_22 : decode cX7_enough 22 = .ok (.getfield 7, 3) := by decide +kernel
theorem dX7_enough_25 : decode cX7_enough 25 = .ok (.iload_n 1, 1) := by decide +kernel
theorem dX7_enough_26 : decode cX7_enough 26 = .ok (.iconst 1, 1) := by decide +kernel
theorem dX7_enough_27 : decode cX7_enough 27 = .ok (.invokestatic 44, 3) := by decide +kernel
theorem dX7_enough_30 : decode cX7_enough 30 = .ok (.iaload, 1) := by decide +kernel
theorem dX7_enough_31 : decode cX7_enough 31 = .ok (.istore_n 3, 1) := by decide +kernel
theorem dX7_enough_32 : decode cX7_enough 32 = .ok (.iconst (-1), 1) := by decide +kernel
theorem dX7_enough_33 : decode cX7_enough 33 = .ok (.istore 4, 2) := by decide +kernel
theorem dX7_enough_35 : decode cX7_enough 35 = .ok (.iconst 0, 1) := by decide +kernel
theorem dX7_enough_36 : decode cX7_enough 36 = .ok (.istore 5, 2) := by decide +kernel
theorem dX7_enough_38 : decode cX7_enough 38 = .ok (.iload 5, 2) := by decide +kernel
theorem dX7_enough_40 : decode cX7_enough 40 = .ok (.sipush 400, 3) := by decide +kernel
theorem dX7_enough_43 : decode cX7_enough 43 = .ok (.if_icmp .gt 43, 3) := by decide +kernel
theorem dX7_enough_46 : decode cX7_enough 46 = .ok (.iload 4, 2) := by decide +kernel
theorem dX7_enough_48 : decode cX7_enough 48 = .ok (.ifCond .ge 38, 3) := by decide +kernel
theorem dX7_enough_51 : decode cX7_enough 51 = .ok (.aload_n 0, 1) := by decide +kernel
theorem dX7_enough_52 : decode cX7_enough 52 = .ok (.getfield 7, 3) := by decide +kernel
theorem dX7_enough_55 : decode cX7_enough 55 = .ok (.iload_n 1, 1) := by decide +kernel
theorem dX7_enough_56 : decode cX7_enough 56 = .ok (.iconst 1, 1) := by decide +kernel
theorem dX7_enough_57 : decode cX7_enough 57 = .ok (.invokestatic 44, 3) := by decide +kernel
theorem dX7_enough_60 : decode cX7_enough 60 = .ok (.iload 5, 2) := by decide +kernel
theorem dX7_enough_62 : decode cX7_enough 62 = .ok (.iastore, 1) := by decide +kernel
theorem dX7_enough_63 : decode cX7_enough 63 = .ok (.aload_n 0, 1) := by decide +kernel
theorem dX7_enough_64 : decode cX7_enough 64 = .ok (.iload_n 1, 1) := by decide +kernel
theorem dX7_enough_65 : decode cX7_enough 65 = .ok (.iload_n 2, 1) := by decide +kernel
theorem dX7_enough_66 : decode cX7_enough 66 = .ok (.invokevirtual 163, 3) := by decide +kernel
theorem dX7_enough_69 : decode cX7_enough 69 = .ok (.ifCond .eq 8, 3) := by decide +kernel
theorem dX7_enough_72 : decode cX7_enough 72 = .ok (.iload 5, 2) := by decide +kernel
theorem dX7_enough_74 : decode cX7_enough 74 = .ok (.goto 4, 3) := by decide +kernel
theorem dX7_enough_77 : decode cX7_enough 77 = .ok (.iconst (-1), 1) := by decide +kernel
theorem dX7_enough_78 : decode cX7_enough 78 = .ok (.istore 4, 2) := by decide +kernel
theorem dX7_enough_80 : decode cX7_enough 80 = .ok (.iinc 5 1, 3) := by decide +kernel
theorem dX7_enough_83 : decode cX7_enough 83 = .ok (.goto (-45), 3) := by decide +kernel
theorem dX7_enough_86 : decode cX7_enough 86 = .ok (.aload_n 0, 1) := by decide +kernel
theorem dX7_enough_87 : decode cX7_enough 87 = .ok (.getfield 7, 3) := by decide +kernel
theorem dX7_enough_90 : decode cX7_enough 90 = .ok (.iload_n 1, 1) := by decide +kernel
theorem dX7_enough_91 : decode cX7_enough 91 = .ok (.iconst 1, 1) := by decide +kernel
theorem dX7_enough_92 : decode cX7_enough 92 = .ok (.invokestatic 44, 3) := by decide +kernel
theorem dX7_enough_95 : decode cX7_enough 95 = .ok (.iload_n 3, 1) := by decide +kernel
theorem dX7_enough_96 : decode cX7_enough 96 = .ok (.iastore, 1) := by decide +kernel
theorem dX7_enough_97 : decode cX7_enough 97 = .ok (.iload 4, 2) := by decide +kernel
theorem dX7_enough_99 : decode cX7_enough 99 = .ok (.ifCond .ge 12, 3) := by decide +kernel
theorem dX7_enough_102 : decode cX7_enough 102 = .ok (.aload_n 0, 1) := by decide +kernel
theorem dX7_enough_103 : decode cX7_enough 103 = .ok (.ldc 147, 2) := by decide +kernel
theorem dX7_enough_105 : decode cX7_enough 105 = .ok (.invokevirtual 78, 3) := by decide +kernel
theorem dX7_enough_108 : decode cX7_enough 108 = .ok (.goto 5, 3) := by decide +kernel
theorem dX7_enough_111 : decode cX7_enough 111 = .ok (.iload 4, 2) := by decide +kernel
theorem dX7_enough_113 : decode cX7_enough 113 = .ok (.ireturn, 1) := by decide +kernel
set_option maxRecDepth 20000 in
theorem ggX7_isNeverDry_X7_laysAside : GoodIn wsX7_isNeverDry wsX7_laysAside := goodIn_r _ [6, 7, 8, 46, 47, 48, 49, 50, 51, 52, 53, 54, 55, 56, 57, 58, 59, 60, 61, 62, 63] rfl (by decide +kernel)
set_option maxRecDepth 20000 in
theorem gX7_isNeverDry_X7_laysAside : GoodIn wsX7_isNeverDry (wsV RX7 138 RX7 yX7_laysAside wsX7_laysAside) := goodIn_app (goodIn_of _ (by decide +kernel)) ggX7_isNeverDry_X7_laysAside
set_option maxRecDepth 20000 in
theorem ggX7_isNeverDry_X7_day : GoodIn wsX7_isNeverDry wsX7_day := goodIn_r _ [12, 1, 8, 13, 14, 5, 15, 16, 17, 18, 19, 20, 21, 22, 23, 24, 25, 26, 27, 28, 29, 30, 31, 32, 33, 34, 35, 36, 37, 38, 39, 40, 41, 46, 47, 48, 49, 50, 51, 52, 53, 54, 55, 56, 57, 58, 59, 60, 61, 62, 63] rfl (by decide +kernel)
set_option maxRecDepth 20000 in
theorem gX7_isNeverDry_X7_day : GoodIn wsX7_isNeverDry (wsV RX7 126 RX7 yX7_day wsX7_day) := goodIn_app (goodIn_of _ (by decide +kernel)) ggX7_isNeverDry_X7_day
set_option maxRecDepth 20000 in
theorem ggX7_isNeverDry_X7_takesBack : GoodIn wsX7_isNeverDry wsX7_takesBack := goodIn_r _ [45, 8, 7, 46, 47, 48, 49, 50, 51, 52, 53, 54, 55, 56, 57, 58, 59, 60, 61, 62, 63] rfl (by decide +kernel)
set_option maxRecDepth 20000 in
theorem gX7_isNeverDry_X7_takesBack : GoodIn wsX7_isNeverDry (wsV RX7 141 RX7 yX7_takesBack wsX7_takesBack) := goodIn_app (goodIn_of _ (by decide +kernel)) ggX7_isNeverDry_X7_takesBack
theorem dX7_isNeverDry_0 : decode cX7_isNeverDry 0 = .ok (.aload_n 0, 1) := by decide +kernel
theorem dX7_isNeverDry_1 : decode cX7_isNeverDry 1 = .ok (.invokevirtual 138, 3) := by decide +kernel
theorem dX7_isNeverDry_4 : decode cX7_isNeverDry 4 = .ok (.iconst 0, 1) := by decide +kernel
theorem dX7_isNeverDry_5 : decode cX7_isNeverDry 5 = .ok (.istore_n 3, 1) := by decide +kernel
theorem dX7_isNeverDry_6 : decode cX7_isNeverDry 6 = .ok (.iconst 0, 1) := by decide +kernel
theorem dX7_isNeverDry_7 : decode cX7_isNeverDry 7 = .ok (.istore 4, 2) := by decide +kernel
theorem dX7_isNeverDry_9 : decode cX7_isNeverDry 9 = .ok (.iload 4, 2) := by decide +kernel
theorem dX7_isNeverDry_11 : decode cX7_isNeverDry 11 = .ok (.iload_n 2, 1) := by decide +kernel
theorem dX7_isNeverDry_12 : decode cX7_isNeverDry 12 = .ok (.if_icmp .ge 35, 3) := by decide +kernel
theorem dX7_isNeverDry_15 : decode cX7_isNeverDry 15 = .ok (.aload_n 0, 1) := by decide +kernel
theorem dX7_isNeverDry_16 : decode cX7_isNeverDry 16 = .ok (.invokevirtual 126, 3) := by decide +kernel
theorem dX7_isNeverDry_19 : decode cX7_isNeverDry 19 = .ok (.iload_n 3, 1) := by decide +kernel
theorem dX7_isNeverDry_20 : decode cX7_isNeverDry 20 = .ok (.ifCond .ne 15, 3) := by decide +kernel
theorem dX7_isNeverDry_23 : decode cX7_isNeverDry 23 = .ok (.aload_n 0, 1) := by decide +kernel
theorem dX7_isNeverDry_24 : decode cX7_isNeverDry 24 = .ok (.getfield 118, 3) := by decide +kernel
theorem dX7_isNeverDry_27 : decode cX7_isNeverDry 27 = .ok (.iload_n 1, 1) := by decide +kernel
theorem dX7_isNeverDry_28 : decode cX7_isNeverDry 28 = .ok (.ishr, 1) := by decide +kernel
theorem dX7_isNeverDry_29 : decode cX7_isNeverDry 29 = .ok (.iconst 1, 1) := by decide +kernel
theorem dX7_isNeverDry_30 : decode cX7_isNeverDry 30 = .ok (.iand, 1) := by decide +kernel
theorem dX7_isNeverDry_31 : decode cX7_isNeverDry 31 = .ok (.iconst 1, 1) := by decide +kernel
theorem dX7_isNeverDry_32 : decode cX7_isNeverDry 32 = .ok (.if_icmp .ne 7, 3) := by decide +kernel
theorem dX7_isNeverDry_35 : decode cX7_isNeverDry 35 = .ok (.iconst 1, 1) := by decide +kernel
theorem dX7_isNeverDry_36 : decode cX7_isNeverDry 36 = .ok (.goto 4, 3) := by decide +kernel
theorem dX7_isNeverDry_39 : decode cX7_isNeverDry 39 = .ok (.iconst 0, 1) := by decide +kernel
theorem dX7_isNeverDry_40 : decode cX7_isNeverDry 40 = .ok (.istore_n 3, 1) := by decide +kernel
theorem dX7_isNeverDry_41 : decode cX7_isNeverDry 41 = .ok (.iinc 4 1, 3) := by decide +kernel
theorem dX7_isNeverDry_44 : decode cX7_isNeverDry 44 = .ok (.goto (-35), 3) := by decide +kernel
theorem dX7_isNeverDry_47 : decode cX7_isNeverDry 47 = .ok (.aload_n 0, 1) := by decide +kernel
theorem dX7_isNeverDry_48 : decode cX7_isNeverDry 48 = .ok (.iload_n 3, 1) := by decide +kernel
theorem dX7_isNeverDry_49 : decode cX7_isNeverDry 49 = .ok (.ifCond .eq 7, 3) := by decide +kernel
theorem dX7_isNeverDry_52 : decode cX7_isNeverDry 52 = .ok (.iconst 1, 1) := by decide +kernel
theorem dX7_isNeverDry_53 : decode cX7_isNeverDry 53 = .ok (.goto 4, 3) := by decide +kernel
theorem dX7_isNeverDry_56 : decode cX7_isNeverDry 56 = .ok (.iconst 0, 1) := by decide +kernel
theorem dX7_isNeverDry_57 : decode cX7_isNeverDry 57 = .ok (.invokevirtual 141, 3) := by decide +kernel
theorem dX7_isNeverDry_60 : decode cX7_isNeverDry 60 = .ok (.ifCond .ne 7, 3) := by decide +kernel
theorem dX7_isNeverDry_63 : decode cX7_isNeverDry 63 = .ok (.iconst 1, 1) := by decide +kernel
theorem dX7_isNeverDry_64 : decode cX7_isNeverDry 64 = .ok (.goto 4, 3) := by decide +kernel
theorem dX7_isNeverDry_67 : decode cX7_isNeverDry 67 = .ok (.iconst 0, 1) := by decide +kernel
theorem dX7_isNeverDry_68 : decode cX7_isNeverDry 68 = .ok (.ireturn, 1) := by decide +kernel
set_option maxRecDepth 20000 in
theorem ggX7_worth_X7_isPerson : GoodIn wsX7_worth wsX7_isPerson := goodIn_r _ [8, 3, 9, 10, 7, 11, 76, 77, 78, 79, 80, 81, 82, 83, 84, 85, 86, 87, 88, 89, 90, 91, 92, 93] rfl (by decide +kernel)
set_option maxRecDepth 20000 in
theorem gX7_worth_X7_isPerson : GoodIn wsX7_worth (wsV RX7 64 RX7 yX7_isPerson wsX7_isPerson) := goodIn_app (goodIn_of _ (by decide +kernel)) ggX7_worth_X7_isPerson
set_option maxRecDepth 20000 in
theorem ggX7_worth_X7_isSoon : GoodIn wsX7_worth wsX7_isSoon := goodIn_r _ [14, 15, 9, 10, 7, 11] rfl (by decide +kernel)
set_option maxRecDepth 20000 in
theorem gX7_worth_X7_isSoon : GoodIn wsX7_worth (va_wsS RX7 151 yX7_isSoon wsX7_isSoon) := goodIn_app (goodIn_of _ (by decide +kernel)) ggX7_worth_X7_isSoon
set_option maxRecDepth 20000 in
theorem ggX7_worth_X7_finds : GoodIn wsX7_worth wsX7_finds := goodIn_r _ [19, 20, 1, 76, 77, 78, 79, 80, 81, 82, 83, 84, 85, 86, 87, 88, 89, 90, 91, 92, 93] rfl (by decide +kernel)
set_option maxRecDepth 20000 in
theorem gX7_worth_X7_finds : GoodIn wsX7_worth (wsV RX7 78 RX7 yX7_finds wsX7_finds) := goodIn_app (goodIn_of _ (by decide +kernel)) ggX7_worth_X7_finds
set_option maxRecDepth 20000 in
theorem ggX7_worth_X7_dryOn : GoodIn wsX7_worth wsX7_dryOn := goodIn_r _ [24, 25, 26, 27, 7, 28, 3, 29, 30, 31, 32, 33, 34, 35, 36, 37, 38, 39, 40, 41, 42, 43, 44, 45, 46, 47, 48, 49, 50, 51, 52, 53, 54, 55, 56, 57, 58, 59, 60, 61, 62, 63, 64, 65, 66, 67, 68, 69, 70, 71, 72, 73, 74, 75, 76, 77, 78, 79, 80, 81, 82, 83, 84, 85, 86, 87, 88, 89, 90, 91, 92, 93] rfl (by decide +kernel)
set_option maxRecDepth 20000 in
theorem gX7_worth_X7_dryOn : GoodIn wsX7_worth (wsV RX7 148 RX7 yX7_dryOn wsX7_dryOn) := goodIn_app (goodIn_of _ (by decide +kernel)) ggX7_worth_X7_dryOn
set_option maxRecDepth 20000 in
theorem ggX7_worth_X7_field : GoodIn wsX7_worth wsX7_field := goodIn_r _ [31] rfl (by decide +kernel)
set_option maxRecDepth 20000 in
theorem gX7_worth_X7_field : GoodIn wsX7_worth (va_wsS RX7 44 yX7_field wsX7_field) := goodIn_app (goodIn_of _ (by decide +kernel)) ggX7_worth_X7_field
theorem dX7_worth_0 : decode cX7_worth 0 = .ok (.aload_n 0, 1) := by decide +kernel
theorem dX7_worth_1 : decode cX7_worth 1 = .ok (.iload_n 1, 1) := by decide +kernel
theorem dX7_worth_2 : decode cX7_worth 2 = .ok (.invokevirtual 64, 3) := by decide +kernel
theorem dX7_worth_5 : decode cX7_worth 5 = .ok (.ifCond .eq 10, 3) := by decide +kernel
theorem dX7_worth_8 : decode cX7_worth 8 = .ok (.iload_n 2, 1) := by decide +kernel
theorem dX7_worth_9 : decode cX7_worth 9 = .ok (.invokestatic 151, 3) := by decide +kernel
theorem dX7_worth_12 : decode cX7_worth 12 = .ok (.ifCond .ne 10, 3) := by decide +kernel
theorem dX7_worth_15 : decode cX7_worth 15 = .ok (.aload_n 0, 1) := by decide +kernel
theorem dX7_worth_16 : decode cX7_worth 16 = .ok (.ldc 48, 2) := by decide +kernel
theorem dX7_worth_18 : decode cX7_worth 18 = .ok (.invokevirtual 78, 3) := by decide +kernel
theorem dX7_worth_21 : decode cX7_worth 21 = .ok (.ireturn, 1) := by decide +kernel
theorem dX7_worth_22 : decode cX7_worth 22 = .ok (.aload_n 0, 1) := by decide +kernel
theorem dX7_worth_23 : decode cX7_worth 23 = .ok (.iload_n 2, 1) := by decide +kernel
theorem dX7_worth_24 : decode cX7_worth 24 = .ok (.invokevirtual 148, 3) := by decide +kernel
theorem dX7_worth_27 : decode cX7_worth 27 = .ok (.istore_n 3, 1) := by decide +kernel
theorem dX7_worth_28 : decode cX7_worth 28 = .ok (.iconst 0, 1) := by decide +kernel
theorem dX7_worth_29 : decode cX7_worth 29 = .ok (.istore 4, 2) := by decide +kernel
theorem dX7_worth_31 : decode cX7_worth 31 = .ok (.iload 4, 2) := by decide +kernel
theorem dX7_worth_33 : decode cX7_worth 33 = .ok (.iconst 4, 1) := by decide +kernel
theorem dX7_worth_34 : decode cX7_worth 34 = .ok (.if_icmp .ge 60, 3) := by decide +kernel
theorem dX7_worth_37 : decode cX7_worth 37 = .ok (.aload_n 0, 1) := by decide +kernel
theorem dX7_worth_38 : decode cX7_worth 38 = .ok (.getfield 25, 3) := by decide +kernel
theorem dX7_worth_41 : decode cX7_worth 41 = .ok (.iload 4, 2) := by decide +kernel
theorem dX7_worth_43 : decode cX7_worth 43 = .ok (.aload_n 0, 1) := by decide +kernel
theorem dX7_worth_44 : decode cX7_worth 44 = .ok (.getfield 7, 3) := by decide +kernel
theorem dX7_worth_47 : decode cX7_worth 47 = .ok (.iload 4, 2) := by decide +kernel
theorem dX7_worth_49 : decode cX7_worth 49 = .ok (.iconst 3, 1) := by decide +kernel
theorem dX7_worth_50 : decode cX7_worth 50 = .ok (.invokestatic 44, 3) := by decide +kernel
theorem dX7_worth_53 : decode cX7_worth 53 = .ok (.iaload, 1) := by decide +kernel
theorem dX7_worth_54 : decode cX7_worth 54 = .ok (.iastore, 1) := by decide +kernel
theorem dX7_worth_55 : decode cX7_worth 55 = .ok (.aload_n 0, 1) := by decide +kernel
theorem dX7_worth_56 : decode cX7_worth 56 = .ok (.getfield 7, 3) := by decide +kernel
theorem dX7_worth_59 : decode cX7_worth 59 = .ok (.iload 4, 2) := by decide +kernel
theorem dX7_worth_61 : decode cX7_worth 61 = .ok (.iconst 3, 1) := by decide +kernel
theorem dX7_worth_62 : decode cX7_worth 62 = .ok (.invokestatic 44, 3) := by decide +kernel
theorem dX7_worth_65 : decode cX7_worth 65 = .ok (.aload_n 0, 1) := by decide +kernel
theorem dX7_worth_66 : decode cX7_worth 66 = .ok (.getfield 25, 3) := by decide +kernel
theorem dX7_worth_69 : decode cX7_worth 69 = .ok (.iload 4, 2) := by decide +kernel
theorem dX7_worth_71 : decode cX7_worth 71 = .ok (.iaload, 1) := by decide +kernel
theorem dX7_worth_72 : decode cX7_worth 72 = .ok (.iload_n 1, 1) := by decide +kernel
theorem dX7_worth_73 : decode cX7_worth 73 = .ok (.if_icmp .ne 7, 3) := by decide +kernel
theorem dX7_worth_76 : decode cX7_worth 76 = .ok (.iconst (-1), 1) := by decide +kernel
theorem dX7_worth_77 : decode cX7_worth 77 = .ok (.goto 10, 3) := by decide +kernel
theorem dX7_worth_80 : decode cX7_worth 80 = .ok (.aload_n 0, 1) := by decide +kernel
theorem dX7_worth_81 : decode cX7_worth 81 = .ok (.getfield 25, 3) := by decide +kernel
theorem dX7_worth_84 : decode cX7_worth 84 = .ok (.iload 4, 2) := by decide +kernel
theorem dX7_worth_86 : decode cX7_worth 86 = .ok (.iaload, 1) := by decide +kernel
theorem dX7_worth_87 : decode cX7_worth 87 = .ok (.iastore, 1) := by decide +kernel
theorem dX7_worth_88 : decode cX7_worth 88 = .ok (.iinc 4 1, 3) := by decide +kernel
theorem dX7_worth_91 : decode cX7_worth 91 = .ok (.goto (-60), 3) := by decide +kernel
theorem dX7_worth_94 : decode cX7_worth 94 = .ok (.aload_n 0, 1) := by decide +kernel
theorem dX7_worth_95 : decode cX7_worth 95 = .ok (.iload_n 2, 1) := by decide +kernel
theorem dX7_worth_96 : decode cX7_worth 96 = .ok (.invokevirtual 148, 3) := by decide +kernel
theorem dX7_worth_99 : decode cX7_worth 99 = .ok (.istore 4, 2) := by decide +kernel
theorem dX7_worth_101 : decode cX7_worth 101 = .ok (.iconst 0, 1) := by decide +kernel
theorem dX7_worth_102 : decode cX7_worth 102 = .ok (.istore 5, 2) := by decide +kernel
theorem dX7_worth_104 : decode cX7_worth 104 = .ok (.iload 5, 2) := by decide +kernel
theorem dX7_worth_106 : decode cX7_worth 106 = .ok (.iconst 4, 1) := by decide +kernel
theorem dX7_worth_107 : decode cX7_worth 107 = .ok (.if_icmp .ge 27, 3) := by decide +kernel
theorem dX7_worth_110 : decode cX7_worth 110 = .ok (.aload_n 0, 1) := by decide +kernel
theorem dX7_worth_111 : decode cX7_worth 111 = .ok (.getfield 7, 3) := by decide +kernel
theorem dX7_worth_114 : decode cX7_worth 114 = .ok (.iload 5, 2) := by decide +kernel
theorem dX7_worth_116 : decode cX7_worth 116 = .ok (.iconst 3, 1) := by decide +kernel
theorem dX7_worth_117 : decode cX7_worth 117 = .ok (.invokestatic 44, 3) := by decide +kernel
theorem dX7_worth_120 : decode cX7_worth 120 = .ok (.aload_n 0, 1) := by decide +kernel
theorem dX7_worth_121 : decode cX7_worth 121 = .ok (.getfield 25, 3) := by decide +kernel
theorem dX7_worth_124 : decode cX7_worth 124 = .ok (.iload 5, 2) := by decide +kernel
theorem dX7_worth_126 : decode cX7_worth 126 = .ok (.iaload, 1) := by decide +kernel
theorem dX7_worth_127 : decode cX7_worth 127 = .ok (.iastore, 1) := by decide +kernel
theorem dX7_worth_128 : decode cX7_worth 128 = .ok (.iinc 5 1, 3) := by decide +kernel
theorem dX7_worth_131 : decode cX7_worth 131 = .ok (.goto (-27), 3) := by decide +kernel
theorem dX7_worth_134 : decode cX7_worth 134 = .ok (.iload 4, 2) := by decide +kernel
theorem dX7_worth_136 : decode cX7_worth 136 = .ok (.iload_n 3, 1) := by decide +kernel
theorem dX7_worth_137 : decode cX7_worth 137 = .ok (.isub, 1) := by decide +kernel
theorem dX7_worth_138 : decode cX7_worth 138 = .ok (.ireturn, 1) := by decide +kernel
set_option maxRecDepth 20000 in
theorem ggX7_did_X7_isPerson : GoodIn wsX7_did wsX7_isPerson := goodIn_r _ [7, 2, 8, 9, 6, 10, 34, 35, 36, 37, 38, 39, 40, 41, 42, 43, 44, 45, 46, 47, 48, 49, 50, 51] rfl (by decide +kernel)
set_option maxRecDepth 20000 in
theorem gX7_did_X7_isPerson : GoodIn wsX7_did (wsV RX7 64 RX7 yX7_isPerson wsX7_isPerson) := goodIn_app (goodIn_of _ (by decide +kernel)) ggX7_did_X7_isPerson
set_option maxRecDepth 20000 in
theorem ggX7_did_X7_finds : GoodIn wsX7_did wsX7_finds := goodIn_r _ [14, 15, 1, 34, 35, 36, 37, 38, 39, 40, 41, 42, 43, 44, 45, 46, 47, 48, 49, 50, 51] rfl (by decide +kernel)
set_option maxRecDepth 20000 in
theorem gX7_did_X7_finds : GoodIn wsX7_did (wsV RX7 78 RX7 yX7_finds wsX7_finds) := goodIn_app (goodIn_of _ (by decide +kernel)) ggX7_did_X7_finds
set_option maxRecDepth 20000 in
theorem ggX7_did_X7_its : GoodIn wsX7_did wsX7_its := goodIn_r _ [19, 2, 20, 21, 6, 22, 34, 35, 36, 37, 38, 39, 40, 41, 42, 43, 44, 45, 46, 47, 48, 49, 50, 51] rfl (by decide +kernel)
set_option maxRecDepth 20000 in
theorem gX7_did_X7_its : GoodIn wsX7_did (wsV RX7 93 RX7 yX7_its wsX7_its) := goodIn_app (goodIn_of _ (by decide +kernel)) ggX7_did_X7_its
set_option maxRecDepth 20000 in
theorem ggX7_did_X7_spot : GoodIn wsX7_did wsX7_spot := goodIn_r _ [22] rfl (by decide +kernel)
set_option maxRecDepth 20000 in
theorem gX7_did_X7_spot : GoodIn wsX7_did (va_wsS RX7 57 yX7_spot wsX7_spot) := goodIn_app (goodIn_of _ (by decide +kernel)) ggX7_did_X7_spot
set_option maxRecDepth 20000 in
theorem ggX7_did_X7_gives : GoodIn wsX7_did wsX7_gives := goodIn_r _ [26, 2, 16, 17, 18, 6, 19, 20, 21, 22, 27, 28, 29, 30, 31, 32, 33, 34, 35, 36, 37, 38, 39, 40, 41, 42, 43, 44, 45, 46, 47, 48, 49, 50, 51] rfl (by decide +kernel)
set_option maxRecDepth 20000 in
theorem gX7_did_X7_gives : GoodIn wsX7_did (wsV RX7 102 RX7 yX7_gives wsX7_gives) := goodIn_app (goodIn_of _ (by decide +kernel)) ggX7_did_X7_gives
theorem dX7_did_0 : decode cX7_did 0 = .ok (.aload_n 0, 1) := by decide +kernel
theorem dX7_did_1 : decode cX7_did 1 = .ok (.iload_n 1, 1) := by decide +kernel
theorem dX7_did_2 : decode cX7_did 2 = .ok (.invokevirtual 64, 3) := by decide +kernel
theorem dX7_did_5 : decode cX7_did 5 = .ok (.ifCond .eq 7, 3) := by decide +kernel
theorem dX7_did_8 : decode cX7_did 8 = .ok (.iload_n 2, 1) := by decide +kernel
theorem dX7_did_9 : decode cX7_did 9 = .ok (.ifCond .ge 10, 3) := by decide +kernel
theorem dX7_did_12 : decode cX7_did 12 = .ok (.aload_n 0, 1) := by decide +kernel
theorem dX7_did_13 : decode cX7_did 13 = .ok (.ldc 48, 2) := by decide +kernel
theorem dX7_did_15 : decode cX7_did 15 = .ok (.invokevirtual 78, 3) := by decide +kernel
theorem dX7_did_18 : decode cX7_did 18 = .ok (.ireturn, 1) := by decide +kernel
theorem dX7_did_19 : decode cX7_did 19 = .ok (.aload_n 0, 1) := by decide +kernel
theorem dX7_did_20 : decode cX7_did 20 = .ok (.iload_n 1, 1) := by decide +kernel
theorem dX7_did_21 : decode cX7_did 21 = .ok (.iconst 1, 1) := by decide +kernel
theorem dX7_did_22 : decode cX7_did 22 = .ok (.invokevirtual 93, 3) := by decide +kernel
theorem dX7_did_25 : decode cX7_did 25 = .ok (.istore_n 3, 1) := by decide +kernel
theorem dX7_did_26 : decode cX7_did 26 = .ok (.iconst 0, 1) := by decide +kernel
theorem dX7_did_27 : decode cX7_did 27 = .ok (.istore 4, 2) := by decide +kernel
theorem dX7_did_29 : decode cX7_did 29 = .ok (.iconst 0, 1) := by decide +kernel
theorem dX7_did_30 : decode cX7_did 30 = .ok (.istore 5, 2) := by decide +kernel
theorem dX7_did_32 : decode cX7_did 32 = .ok (.iload 5, 2) := by decide +kernel
theorem dX7_did_34 : decode cX7_did 34 = .ok (.sipush 256, 3) := by decide +kernel
theorem dX7_did_37 : decode cX7_did 37 = .ok (.if_icmp .ge 40, 3) := by decide +kernel
theorem dX7_did_40 : decode cX7_did 40 = .ok (.aload_n 0, 1) := by decide +kernel
theorem dX7_did_41 : decode cX7_did 41 = .ok (.getfield 7, 3) := by decide +kernel
theorem dX7_did_44 : decode cX7_did 44 = .ok (.iload_n 1, 1) := by decide +kernel
theorem dX7_did_45 : decode cX7_did 45 = .ok (.iconst 1, 1) := by decide +kernel
theorem dX7_did_46 : decode cX7_did 46 = .ok (.invokestatic 57, 3) := by decide +kernel
theorem dX7_did_49 : decode cX7_did 49 = .ok (.iload 5, 2) := by decide +kernel
theorem dX7_did_51 : decode cX7_did 51 = .ok (.iastore, 1) := by decide +kernel
theorem dX7_did_52 : decode cX7_did 52 = .ok (.iload 4, 2) := by decide +kernel
theorem dX7_did_54 : decode cX7_did 54 = .ok (.aload_n 0, 1) := by decide +kernel
theorem dX7_did_55 : decode cX7_did 55 = .ok (.iload_n 1, 1) := by decide +kernel
theorem dX7_did_56 : decode cX7_did 56 = .ok (.invokevirtual 102, 3) := by decide +kernel
theorem dX7_did_59 : decode cX7_did 59 = .ok (.iload_n 2, 1) := by decide +kernel
theorem dX7_did_60 : decode cX7_did 60 = .ok (.if_icmp .ne 7, 3) := by decide +kernel
theorem dX7_did_63 : decode cX7_did 63 = .ok (.iconst 1, 1) := by decide +kernel
theorem dX7_did_64 : decode cX7_did 64 = .ok (.goto 4, 3) := by decide +kernel
theorem dX7_did_67 : decode cX7_did 67 = .ok (.iconst 0, 1) := by decide +kernel
theorem dX7_did_68 : decode cX7_did 68 = .ok (.iadd, 1) := by decide +kernel
theorem dX7_did_69 : decode cX7_did 69 = .ok (.istore 4, 2) := by decide +kernel
theorem dX7_did_71 : decode cX7_did 71 = .ok (.iinc 5 1, 3) := by decide +kernel
theorem dX7_did_74 : decode cX7_did 74 = .ok (.goto (-42), 3) := by decide +kernel
theorem dX7_did_77 : decode cX7_did 77 = .ok (.aload_n 0, 1) := by decide +kernel
theorem dX7_did_78 : decode cX7_did 78 = .ok (.getfield 7, 3) := by decide +kernel
theorem dX7_did_81 : decode cX7_did 81 = .ok (.iload_n 1, 1) := by decide +kernel
theorem dX7_did_82 : decode cX7_did 82 = .ok (.iconst 1, 1) := by decide +kernel
theorem dX7_did_83 : decode cX7_did 83 = .ok (.invokestatic 57, 3) := by decide +kernel
theorem dX7_did_86 : decode cX7_did 86 = .ok (.iload_n 3, 1) := by decide +kernel
theorem dX7_did_87 : decode cX7_did 87 = .ok (.iastore, 1) := by decide +kernel
theorem dX7_did_88 : decode cX7_did 88 = .ok (.iload 4, 2) := by decide +kernel
theorem dX7_did_90 : decode cX7_did 90 = .ok (.ireturn, 1) := by decide +kernel
set_option maxRecDepth 20000 in
theorem ggX7_feed_X7_in : GoodIn wsX7_feed wsX7_in := goodIn_r _ [9] rfl (by decide +kernel)
set_option maxRecDepth 20000 in
theorem gX7_feed_X7_in : GoodIn wsX7_feed (va_wsS RX7 51 yX7_in wsX7_in) := goodIn_app (goodIn_of _ (by decide +kernel)) ggX7_feed_X7_in
set_option maxRecDepth 20000 in
theorem ggX7_feed_X7_finds : GoodIn wsX7_feed wsX7_finds := goodIn_r _ [13, 14, 2, 15, 16, 17, 18, 19, 20, 21, 22, 23, 24, 25, 26, 27, 28, 29, 30, 31, 32] rfl (by decide +kernel)
set_option maxRecDepth 20000 in
theorem gX7_feed_X7_finds : GoodIn wsX7_feed (wsV RX7 78 RX7 yX7_finds wsX7_finds) := goodIn_app (goodIn_of _ (by decide +kernel)) ggX7_feed_X7_finds
theorem dX7_feed_0 : decode cX7_feed 0 = .ok (.iload_n 2, 1) := by decide +kernel
theorem dX7_feed_1 : decode cX7_feed 1 = .ok (.i2l, 1) := by decide +kernel
theorem dX7_feed_2 : decode cX7_feed 2 = .ok (.lconst 1, 1) := by decide +kernel
theorem dX7_feed_3 : decode cX7_feed 3 = .ok (.ldc2_w 166, 3) := by decide +kernel
theorem dX7_feed_6 : decode cX7_feed 6 = .ok (.invokestatic 51, 3) := by decide +kernel
theorem dX7_feed_9 : decode cX7_feed 9 = .ok (.ifCond .ne 10, 3) := by decide +kernel
theorem dX7_feed_12 : decode cX7_feed 12 = .ok (.aload_n 0, 1) := by decide +kernel
theorem dX7_feed_13 : decode cX7_feed 13 = .ok (.ldc 48, 2) := by decide +kernel
theorem dX7_feed_15 : decode cX7_feed 15 = .ok (.invokevirtual 78, 3) := by decide +kernel
theorem dX7_feed_18 : decode cX7_feed 18 = .ok (.ireturn, 1) := by decide +kernel
theorem dX7_feed_19 : decode cX7_feed 19 = .ok (.aload_n 0, 1) := by decide +kernel
theorem dX7_feed_20 : decode cX7_feed 20 = .ok (.getfield 168, 3) := by decide +kernel
theorem dX7_feed_23 : decode cX7_feed 23 = .ok (.iload_n 2, 1) := by decide +kernel
theorem dX7_feed_24 : decode cX7_feed 24 = .ok (.iadd, 1) := by decide +kernel
theorem dX7_feed_25 : decode cX7_feed 25 = .ok (.bipush 120, 2) := by decide +kernel
theorem dX7_feed_27 : decode cX7_feed 27 = .ok (.if_icmp .le 10, 3) := by decide +kernel
theorem dX7_feed_30 : decode cX7_feed 30 = .ok (.aload_n 0, 1) := by decide +kernel
theorem dX7_feed_31 : decode cX7_feed 31 = .ok (.ldc 89, 2) := by decide +kernel
theorem dX7_feed_33 : decode cX7_feed 33 = .ok (.invokevirtual 78, 3) := by decide +kernel
theorem dX7_feed_36 : decode cX7_feed 36 = .ok (.ireturn, 1) := by decide +kernel
theorem dX7_feed_37 : decode cX7_feed 37 = .ok (.iload_n 2, 1) := by decide +kernel
theorem dX7_feed_38 : decode cX7_feed 38 = .ok (.iconst 1, 1) := by decide +kernel
theorem dX7_feed_39 : decode cX7_feed 39 = .ok (.isub, 1) := by decide +kernel
theorem dX7_feed_40 : decode cX7_feed 40 = .ok (.istore_n 3, 1) := by decide +kernel
theorem dX7_feed_41 : decode cX7_feed 41 = .ok (.iload_n 3, 1) := by decide +kernel
theorem dX7_feed_42 : decode cX7_feed 42 = .ok (.ifCond .lt 38, 3) := by decide +kernel
theorem dX7_feed_45 : decode cX7_feed 45 = .ok (.aload_n 0, 1) := by decide +kernel
theorem dX7_feed_46 : decode cX7_feed 46 = .ok (.getfield 28, 3) := by decide +kernel
theorem dX7_feed_49 : decode cX7_feed 49 = .ok (.aload_n 0, 1) := by decide +kernel
theorem dX7_feed_50 : decode cX7_feed 50 = .ok (.getfield 168, 3) := by decide +kernel
theorem dX7_feed_53 : decode cX7_feed 53 = .ok (.iload_n 1, 1) := by decide +kernel
theorem dX7_feed_54 : decode cX7_feed 54 = .ok (.bipush 8, 2) := by decide +kernel
theorem dX7_feed_56 : decode cX7_feed 56 = .ok (.iload_n 3, 1) := by decide +kernel
theorem dX7_feed_57 : decode cX7_feed 57 = .ok (.imul, 1) := by decide +kernel
theorem dX7_feed_58 : decode cX7_feed 58 = .ok (.ishr, 1) := by decide +kernel
theorem dX7_feed_59 : decode cX7_feed 59 = .ok (.sipush 255, 3) := by decide +kernel
theorem dX7_feed_62 : decode cX7_feed 62 = .ok (.iand, 1) := by decide +kernel
theorem dX7_feed_63 : decode cX7_feed 63 = .ok (.iastore, 1) := by decide +kernel
theorem dX7_feed_64 : decode cX7_feed 64 = .ok (.aload_n 0, 1) := by decide +kernel
theorem dX7_feed_65 : decode cX7_feed 65 = .ok (.dup, 1) := by decide +kernel
theorem dX7_feed_66 : decode cX7_feed 66 = .ok (.getfield 168, 3) := by decide +kernel
theorem dX7_feed_69 : decode cX7_feed 69 = .ok (.iconst 1, 1) := by decide +kernel
theorem dX7_feed_70 : decode cX7_feed 70 = .ok (.iadd, 1) := by decide +kernel
theorem dX7_feed_71 : decode cX7_feed 71 = .ok (.putfield 168, 3) := by decide +kernel
theorem dX7_feed_74 : decode cX7_feed 74 = .ok (.iinc 3 (-1), 3) := by decide +kernel
theorem dX7_feed_77 : decode cX7_feed 77 = .ok (.goto (-36), 3) := by decide +kernel
theorem dX7_feed_80 : decode cX7_feed 80 = .ok (.aload_n 0, 1) := by decide +kernel
theorem dX7_feed_81 : decode cX7_feed 81 = .ok (.getfield 168, 3) := by decide +kernel
theorem dX7_feed_84 : decode cX7_feed 84 = .ok (.ireturn, 1) := by decide +kernel
theorem dX7_wipe_0 : decode cX7_wipe 0 = .ok (.aload_n 0, 1) := by decide +kernel
theorem dX7_wipe_1 : decode cX7_wipe 1 = .ok (.getfield 168, 3) := by decide +kernel
theorem dX7_wipe_4 : decode cX7_wipe 4 = .ok (.istore_n 1, 1) := by decide +kernel
theorem dX7_wipe_5 : decode cX7_wipe 5 = .ok (.aload_n 0, 1) := by decide +kernel
theorem dX7_wipe_6 : decode cX7_wipe 6 = .ok (.iconst 0, 1) := by decide +kernel
theorem dX7_wipe_7 : decode cX7_wipe 7 = .ok (.putfield 168, 3) := by decide +kernel
theorem dX7_wipe_10 : decode cX7_wipe 10 = .ok (.iload_n 1, 1) := by decide +kernel
theorem dX7_wipe_11 : decode cX7_wipe 11 = .ok (.ireturn, 1) := by decide +kernel
theorem dX7_byteAt_0 : decode cX7_byteAt 0 = .ok (.iload_n 1, 1) := by decide +kernel
theorem dX7_byteAt_1 : decode cX7_byteAt 1 = .ok (.aload_n 0, 1) := by decide +kernel
theorem dX7_byteAt_2 : decode cX7_byteAt 2 = .ok (.getfield 168, 3) := by decide +kernel
theorem dX7_byteAt_5 : decode cX7_byteAt 5 = .ok (.if_icmp .ge 12, 3) := by decide +kernel
theorem dX7_byteAt_8 : decode cX7_byteAt 8 = .ok (.aload_n 0, 1) := by decide +kernel
theorem dX7_byteAt_9 : decode cX7_byteAt 9 = .ok (.getfield 28, 3) := by decide +kernel
theorem dX7_byteAt_12 : decode cX7_byteAt 12 = .ok (.iload_n 1, 1) := by decide +kernel
theorem dX7_byteAt_13 : decode cX7_byteAt 13 = .ok (.iaload, 1) := by decide +kernel
theorem dX7_byteAt_14 : decode cX7_byteAt 14 = .ok (.goto 4, 3) := by decide +kernel
theorem dX7_byteAt_17 : decode cX7_byteAt 17 = .ok (.iconst (-1), 1) := by decide +kernel
theorem dX7_byteAt_18 : decode cX7_byteAt 18 = .ok (.ireturn, 1) := by decide +kernel
set_option maxRecDepth 20000 in
theorem ggX7_isLetter_X7_in : GoodIn wsX7_isLetter wsX7_in := goodIn_r _ [6] rfl (by decide +kernel)
set_option maxRecDepth 20000 in
theorem gX7_isLetter_X7_in : GoodIn wsX7_isLetter (va_wsS RX7 51 yX7_in wsX7_in) := goodIn_app (goodIn_of _ (by decide +kernel)) ggX7_isLetter_X7_in
theorem dX7_isLetter_0 : decode cX7_isLetter 0 = .ok (.iload_n 0, 1) := by decide +kernel
theorem dX7_isLetter_1 : decode cX7_isLetter 1 = .ok (.i2l, 1) := by decide +kernel
theorem dX7_isLetter_2 : decode cX7_isLetter 2 = .ok (.ldc2_w 171, 3) := by decide +kernel
theorem dX7_isLetter_5 : decode cX7_isLetter 5 = .ok (.ldc2_w 173, 3) := by decide +kernel
theorem dX7_isLetter_8 : decode cX7_isLetter 8 = .ok (.invokestatic 51, 3) := by decide +kernel
theorem dX7_isLetter_11 : decode cX7_isLetter 11 = .ok (.ireturn, 1) := by decide +kernel
set_option maxRecDepth 20000 in
theorem ggX7_isDigit_X7_in : GoodIn wsX7_isDigit wsX7_in := goodIn_r _ [6] rfl (by decide +kernel)
set_option maxRecDepth 20000 in
theorem gX7_isDigit_X7_in : GoodIn wsX7_isDigit (va_wsS RX7 51 yX7_in wsX7_in) := goodIn_app (goodIn_of _ (by decide +kernel)) ggX7_isDigit_X7_in
theorem dX7_isDigit_0 : decode cX7_isDigit 0 = .ok (.iload_n 0, 1) := by decide +kernel
theorem dX7_isDigit_1 : decode cX7_isDigit 1 = .ok (.i2l, 1) := by decide +kernel
theorem dX7_isDigit_2 : decode cX7_isDigit 2 = .ok (.ldc2_w 175, 3) := by decide +kernel
theorem dX7_isDigit_5 : decode cX7_isDigit 5 = .ok (.ldc2_w 177, 3) := by decide +kernel
theorem dX7_isDigit_8 : decode cX7_isDigit 8 = .ok (.invokestatic 51, 3) := by decide +kernel
theorem dX7_isDigit_11 : decode cX7_isDigit 11 = .ok (.ireturn, 1) := by decide +kernel
set_option maxRecDepth 20000 in
theorem ggX7_token_X7_byteAt : GoodIn wsX7_token wsX7_byteAt := goodIn_r _ [8, 3, 9, 23, 24, 25, 26, 27, 28, 29, 30, 31, 32, 33, 34, 35, 36, 37, 38, 39, 40] rfl (by decide +kernel)
set_option maxRecDepth 20000 in
theorem gX7_token_X7_byteAt : GoodIn wsX7_token (wsV RX7 185 RX7 yX7_byteAt wsX7_byteAt) := goodIn_app (goodIn_of _ (by decide +kernel)) ggX7_token_X7_byteAt
set_option maxRecDepth 20000 in
theorem ggX7_token_X7_isLetter : GoodIn wsX7_token wsX7_isLetter := goodIn_r _ [12, 13, 14, 15, 16, 7, 17] rfl (by decide +kernel)
set_option maxRecDepth 20000 in
theorem gX7_token_X7_isLetter : GoodIn wsX7_token (va_wsS RX7 188 yX7_isLetter wsX7_isLetter) := goodIn_app (goodIn_of _ (by decide +kernel)) ggX7_token_X7_isLetter
set_option maxRecDepth 20000 in
theorem ggX7_token_X7_isDigit : GoodIn wsX7_token wsX7_isDigit := goodIn_r _ [20, 21, 22, 15, 16, 7, 17] rfl (by decide +kernel)
set_option maxRecDepth 20000 in
theorem gX7_token_X7_isDigit : GoodIn wsX7_token (va_wsS RX7 191 yX7_isDigit wsX7_isDigit) := goodIn_app (goodIn_of _ (by decide +kernel)) ggX7_token_X7_isDigit
theorem dX7_token_0 : decode cX7_token 0 = .ok (.aload_n 0, 1) := by decide +kernel
theorem dX7_token_1 : decode cX7_token 1 = .ok (.aload_n 0, 1) := by decide +kernel
theorem dX7_token_2 : decode cX7_token 2 = .ok (.getfield 179, 3) := by decide +kernel
theorem dX7_token_5 : decode cX7_token 5 = .ok (.putfield 182, 3) := by decide +kernel
theorem dX7_token_8 : decode cX7_token 8 = .ok (.aload_n 0, 1) := by decide +kernel
theorem dX7_token_9 : decode cX7_token 9 = .ok (.aload_n 0, 1) := by decide +kernel
theorem dX7_token_10 : decode cX7_token 10 = .ok (.getfield 182, 3) := by decide +kernel
theorem dX7_token_13 : decode cX7_token 13 = .ok (.invokevirtual 185, 3) := by decide +kernel
theorem dX7_token_16 : decode cX7_token 16 = .ok (.bipush 32, 2) := by decide +kernel
theorem dX7_token_18 : decode cX7_token 18 = .ok (.if_icmp .ne 16, 3) := by decide +kernel
theorem dX7_token_21 : decode cX7_token 21 = .ok (.aload_n 0, 1) := by decide +kernel
theorem dX7_token_22 : decode cX7_token 22 = .ok (.dup, 1) := by decide +kernel
theorem dX7_token_23 : decode cX7_token 23 = .ok (.getfield 182, 3) := by decide +kernel
theorem dX7_token_26 : decode cX7_token 26 = .ok (.iconst 1, 1) := by decide +kernel
theorem dX7_token_27 : decode cX7_token 27 = .ok (.iadd, 1) := by decide +kernel
theorem dX7_token_28 : decode cX7_token 28 = .ok (.putfield 182, 3) := by decide +kernel
theorem dX7_token_31 : decode cX7_token 31 = .ok (.goto (-23), 3) := by decide +kernel
theorem dX7_token_34 : decode cX7_token 34 = .ok (.aload_n 0, 1) := by decide +kernel
theorem dX7_token_35 : decode cX7_token 35 = .ok (.aload_n 0, 1) := by decide +kernel
theorem dX7_token_36 : decode cX7_token 36 = .ok (.getfield 182, 3) := by decide +kernel
theorem dX7_token_39 : decode cX7_token 39 = .ok (.invokevirtual 185, 3) := by decide +kernel
theorem dX7_token_42 : decode cX7_token 42 = .ok (.invokestatic 188, 3) := by decide +kernel
theorem dX7_token_45 : decode cX7_token 45 = .ok (.istore_n 1, 1) := by decide +kernel
theorem dX7_token_46 : decode cX7_token 46 = .ok (.aload_n 0, 1) := by decide +kernel
theorem dX7_token_47 : decode cX7_token 47 = .ok (.aload_n 0, 1) := by decide +kernel
theorem dX7_token_48 : decode cX7_token 48 = .ok (.getfield 182, 3) := by decide +kernel
theorem dX7_token_51 : decode cX7_token 51 = .ok (.invokevirtual 185, 3) := by decide +kernel
theorem dX7_token_54 : decode cX7_token 54 = .ok (.invokestatic 191, 3) := by decide +kernel
theorem dX7_token_57 : decode cX7_token 57 = .ok (.istore_n 2, 1) := by decide +kernel
theorem dX7_token_58 : decode cX7_token 58 = .ok (.aload_n 0, 1) := by decide +kernel
theorem dX7_token_59 : decode cX7_token 59 = .ok (.aload_n 0, 1) := by decide +kernel
theorem dX7_token_60 : decode cX7_token 60 = .ok (.getfield 182, 3) := by decide +kernel
theorem dX7_token_63 : decode cX7_token 63 = .ok (.aload_n 0, 1) := by decide +kernel
theorem dX7_token_64 : decode cX7_token 64 = .ok (.getfield 168, 3) := by decide +kernel
theorem dX7_token_67 : decode cX7_token 67 = .ok (.if_icmp .ge 12, 3) := by decide +kernel
theorem dX7_token_70 : decode cX7_token 70 = .ok (.aload_n 0, 1) := by decide +kernel
theorem dX7_token_71 : decode cX7_token 71 = .ok (.getfield 182, 3) := by decide +kernel
theorem dX7_token_74 : decode cX7_token 74 = .ok (.iconst 1, 1) := by decide +kernel
theorem dX7_token_75 : decode cX7_token 75 = .ok (.iadd, 1) := by decide +kernel
theorem dX7_token_76 : decode cX7_token 76 = .ok (.goto 7, 3) := by decide +kernel
theorem dX7_token_79 : decode cX7_token 79 = .ok (.aload_n 0, 1) := by decide +kernel
theorem dX7_token_80 : decode cX7_token 80 = .ok (.getfield 182, 3) := by decide +kernel
theorem dX7_token_83 : decode cX7_token 83 = .ok (.putfield 179, 3) := by decide +kernel
theorem dX7_token_86 : decode cX7_token 86 = .ok (.iload_n 1, 1) := by decide +kernel
theorem dX7_token_87 : decode cX7_token 87 = .ok (.ifCond .eq 17, 3) := by decide +kernel
theorem dX7_token_90 : decode cX7_token 90 = .ok (.aload_n 0, 1) := by decide +kernel
theorem dX7_token_91 : decode cX7_token 91 = .ok (.aload_n 0, 1) := by decide +kernel
theorem dX7_token_92 : decode cX7_token 92 = .ok (.getfield 179, 3) := by decide +kernel
theorem dX7_token_95 : decode cX7_token 95 = .ok (.invokevirtual 185, 3) := by decide +kernel
theorem dX7_token_98 : decode cX7_token 98 = .ok (.invokestatic 188, 3) := by decide +kernel
theorem dX7_token_101 : decode cX7_token 101 = .ok (.ifCond .ne 21, 3) := by decide +kernel
theorem dX7_token_104 : decode cX7_token 104 = .ok (.iload_n 2, 1) := by decide +kernel
theorem dX7_token_105 : decode cX7_token 105 = .ok (.ifCond .eq 30, 3) := by decide +kernel
theorem dX7_token_108 : decode cX7_token 108 = .ok (.aload_n 0, 1) := by decide +kernel
theorem dX7_token_109 : decode cX7_token 109 = .ok (.aload_n 0, 1) := by decide +kernel
theorem dX7_token_110 : decode cX7_token 110 = .ok (.getfield 179, 3) := by decide +kernel
theorem dX7_token_113 : decode cX7_token 113 = .ok (.invokevirtual 185, 3) := by decide +kernel
theorem dX7_token_116 : decode cX7_token 116 = .ok (.invokestatic 191, 3) := by decide +kernel
theorem dX7_token_119 : decode cX7_token 119 = .ok (.ifCond .eq 16, 3) := by decide +kernel
theorem dX7_token_122 : decode cX7_token 122 = .ok (.aload_n 0, 1) := by decide +kernel
theorem dX7_token_123 : decode cX7_token 123 = .ok (.dup, 1) := by decide +kernel
theorem dX7_token_124 : decode cX7_token 124 = .ok (.getfield 179, 3) := by decide +kernel
theorem dX7_token_127 : decode cX7_token 127 = .ok (.iconst 1, 1) := by decide +kernel
theorem dX7_token_128 : decode cX7_token 128 = .ok (.iadd, 1) := by decide +kernel
theorem dX7_token_129 : decode cX7_token 129 = .ok (.putfield 179, 3) := by decide +kernel
theorem dX7_token_132 : decode cX7_token 132 = .ok (.goto (-46), 3) := by decide +kernel
theorem dX7_token_135 : decode cX7_token 135 = .ok (.return_, 1) := by decide +kernel
set_option maxRecDepth 20000 in
theorem ggX7_must_X7_token : GoodIn wsX7_must wsX7_token := goodIn_r _ [6, 7, 8, 9, 10, 11, 12, 5, 13, 14, 15, 16, 17, 18, 19, 20, 21, 22, 23, 24, 25, 26, 27, 28, 29, 30, 31, 32, 33, 34, 35, 36, 37, 38, 39, 40, 41, 42, 43, 44, 45] rfl (by decide +kernel)
set_option maxRecDepth 20000 in
theorem gX7_must_X7_token : GoodIn wsX7_must (wsV RX7 198 RX7 yX7_token wsX7_token) := goodIn_app (goodIn_of _ (by decide +kernel)) ggX7_must_X7_token
theorem dX7_must_0 : decode cX7_must 0 = .ok (.aload_n 0, 1) := by decide +kernel
theorem dX7_must_1 : decode cX7_must 1 = .ok (.aload_n 0, 1) := by decide +kernel
theorem dX7_must_2 : decode cX7_must 2 = .ok (.getfield 194, 3) := by decide +kernel
theorem dX7_must_5 : decode cX7_must 5 = .ok (.ifCond .ne 7, 3) := by decide +kernel
theorem dX7_must_8 : decode cX7_must 8 = .ok (.iload_n 1, 1) := by decide +kernel
theorem dX7_must_9 : decode cX7_must 9 = .ok (.ifCond .ne 7, 3) := by decide +kernel
theorem dX7_must_12 : decode cX7_must 12 = .ok (.iconst 1, 1) := by decide +kernel
theorem dX7_must_13 : decode cX7_must 13 = .ok (.goto 4, 3) := by decide +kernel
theorem dX7_must_16 : decode cX7_must 16 = .ok (.iconst 0, 1) := by decide +kernel
theorem dX7_must_17 : decode cX7_must 17 = .ok (.putfield 194, 3) := by decide +kernel
theorem dX7_must_20 : decode cX7_must 20 = .ok (.aload_n 0, 1) := by decide +kernel
theorem dX7_must_21 : decode cX7_must 21 = .ok (.getfield 194, 3) := by decide +kernel
theorem dX7_must_24 : decode cX7_must 24 = .ok (.ifCond .ne 7, 3) := by decide +kernel
theorem dX7_must_27 : decode cX7_must 27 = .ok (.aload_n 0, 1) := by decide +kernel
theorem dX7_must_28 : decode cX7_must 28 = .ok (.invokevirtual 198, 3) := by decide +kernel
theorem dX7_must_31 : decode cX7_must 31 = .ok (.return_, 1) := by decide +kernel
set_option maxRecDepth 20000 in
theorem ggX7_word_X7_byteAt : GoodIn wsX7_word wsX7_byteAt := goodIn_r _ [11, 12, 5, 21, 22, 23, 24, 25, 26, 27, 28, 29, 30, 31, 32, 33, 34, 35, 36, 37, 38] rfl (by decide +kernel)
set_option maxRecDepth 20000 in
theorem gX7_word_X7_byteAt : GoodIn wsX7_word (wsV RX7 185 RX7 yX7_byteAt wsX7_byteAt) := goodIn_app (goodIn_of _ (by decide +kernel)) ggX7_word_X7_byteAt
set_option maxRecDepth 20000 in
theorem ggX7_word_X7_isLetter : GoodIn wsX7_word wsX7_isLetter := goodIn_r _ [15, 16, 17, 18, 19, 10, 20] rfl (by decide +kernel)
set_option maxRecDepth 20000 in
theorem gX7_word_X7_isLetter : GoodIn wsX7_word (va_wsS RX7 188 yX7_isLetter wsX7_isLetter) := goodIn_app (goodIn_of _ (by decide +kernel)) ggX7_word_X7_isLetter
theorem dX7_word_0 : decode cX7_word 0 = .ok (.lconst 0, 1) := by decide +kernel
theorem dX7_word_1 : decode cX7_word 1 = .ok (.lstore_n 1, 1) := by decide +kernel
theorem dX7_word_2 : decode cX7_word 2 = .ok (.aload_n 0, 1) := by decide +kernel
theorem dX7_word_3 : decode cX7_word 3 = .ok (.getfield 182, 3) := by decide +kernel
theorem dX7_word_6 : decode cX7_word 6 = .ok (.istore_n 3, 1) := by decide +kernel
theorem dX7_word_7 : decode cX7_word 7 = .ok (.iload_n 3, 1) := by decide +kernel
theorem dX7_word_8 : decode cX7_word 8 = .ok (.aload_n 0, 1) := by decide +kernel
theorem dX7_word_9 : decode cX7_word 9 = .ok (.getfield 179, 3) := by decide +kernel
theorem dX7_word_12 : decode cX7_word 12 = .ok (.if_icmp .ge 38, 3) := by decide +kernel
theorem dX7_word_15 : decode cX7_word 15 = .ok (.lload_n 1, 1) := by decide +kernel
theorem dX7_word_16 : decode cX7_word 16 = .ok (.ldc2_w 201, 3) := by decide +kernel
theorem dX7_word_19 : decode cX7_word 19 = .ok (.lcmp, 1) := by decide +kernel
theorem dX7_word_20 : decode cX7_word 20 = .ok (.ifCond .le 7, 3) := by decide +kernel
theorem dX7_word_23 : decode cX7_word 23 = .ok (.lload_n 1, 1) := by decide +kernel
theorem dX7_word_24 : decode cX7_word 24 = .ok (.goto 19, 3) := by decide +kernel
theorem dX7_word_27 : decode cX7_word 27 = .ok (.ldc2_w 203, 3) := by decide +kernel
theorem dX7_word_30 : decode cX7_word 30 = .ok (.lload_n 1, 1) := by decide +kernel
theorem dX7_word_31 : decode cX7_word 31 = .ok (.lmul, 1) := by decide +kernel
theorem dX7_word_32 : decode cX7_word 32 = .ok (.aload_n 0, 1) := by decide +kernel
theorem dX7_word_33 : decode cX7_word 33 = .ok (.getfield 28, 3) := by decide +kernel
theorem dX7_word_36 : decode cX7_word 36 = .ok (.iload_n 3, 1) := by decide +kernel
theorem dX7_word_37 : decode cX7_word 37 = .ok (.iaload, 1) := by decide +kernel
theorem dX7_word_38 : decode cX7_word 38 = .ok (.bipush 96, 2) := by decide +kernel
theorem dX7_word_40 : decode cX7_word 40 = .ok (.isub, 1) := by decide +kernel
theorem dX7_word_41 : decode cX7_word 41 = .ok (.i2l, 1) := by decide +kernel
theorem dX7_word_42 : decode cX7_word 42 = .ok (.ladd, 1) := by decide +kernel
theorem dX7_word_43 : decode cX7_word 43 = .ok (.lstore_n 1, 1) := by decide +kernel
theorem dX7_word_44 : decode cX7_word 44 = .ok (.iinc 3 1, 3) := by decide +kernel
theorem dX7_word_47 : decode cX7_word 47 = .ok (.goto (-40), 3) := by decide +kernel
theorem dX7_word_50 : decode cX7_word 50 = .ok (.aload_n 0, 1) := by decide +kernel
theorem dX7_word_51 : decode cX7_word 51 = .ok (.getfield 194, 3) := by decide +kernel
theorem dX7_word_54 : decode cX7_word 54 = .ok (.ifCond .ne 17, 3) := by decide +kernel
theorem dX7_word_57 : decode cX7_word 57 = .ok (.aload_n 0, 1) := by decide +kernel
theorem dX7_word_58 : decode cX7_word 58 = .ok (.aload_n 0, 1) := by decide +kernel
theorem dX7_word_59 : decode cX7_word 59 = .ok (.getfield 182, 3) := by decide +kernel
theorem dX7_word_62 : decode cX7_word 62 = .ok (.invokevirtual 185, 3) := by decide +kernel
theorem dX7_word_65 : decode cX7_word 65 = .ok (.invokestatic 188, 3) := by decide +kernel
theorem dX7_word_68 : decode cX7_word 68 = .ok (.ifCond .ne 7, 3) := by decide +kernel
theorem dX7_word_71 : decode cX7_word 71 = .ok (.lconst 0, 1) := by decide +kernel
theorem dX7_word_72 : decode cX7_word 72 = .ok (.goto 4, 3) := by decide +kernel
theorem dX7_word_75 : decode cX7_word 75 = .ok (.lload_n 1, 1) := by decide +kernel
theorem dX7_word_76 : decode cX7_word 76 = .ok (.lreturn, 1) := by decide +kernel
set_option maxRecDepth 20000 in
theorem ggX7_number_X7_byteAt : GoodIn wsX7_number wsX7_byteAt := goodIn_r _ [10, 11, 4, 33, 34, 35, 36, 37, 38, 39, 40, 41, 42, 43, 44, 45, 46, 47, 48, 49, 50] rfl (by decide +kernel)
set_option maxRecDepth 20000 in
theorem gX7_number_X7_byteAt : GoodIn wsX7_number (wsV RX7 185 RX7 yX7_byteAt wsX7_byteAt) := goodIn_app (goodIn_of _ (by decide +kernel)) ggX7_number_X7_byteAt
set_option maxRecDepth 20000 in
theorem ggX7_number_X7_isDigit : GoodIn wsX7_number wsX7_isDigit := goodIn_r _ [14, 15, 16, 17, 18, 9, 19] rfl (by decide +kernel)
set_option maxRecDepth 20000 in
theorem gX7_number_X7_isDigit : GoodIn wsX7_number (va_wsS RX7 191 yX7_isDigit wsX7_isDigit) := goodIn_app (goodIn_of _ (by decide +kernel)) ggX7_number_X7_isDigit
set_option maxRecDepth 20000 in
theorem ggX7_number_X7_in : GoodIn wsX7_number wsX7_in := goodIn_r _ [19] rfl (by decide +kernel)
set_option maxRecDepth 20000 in
theorem gX7_number_X7_in : GoodIn wsX7_number (va_wsS RX7 51 yX7_in wsX7_in) := goodIn_app (goodIn_of _ (by decide +kernel)) ggX7_number_X7_in
set_option maxRecDepth 20000 in
theorem ggX7_number_X7_must : GoodIn wsX7_number wsX7_must := goodIn_r _ [23, 1, 24, 25, 26, 9, 27, 3, 2, 11, 6, 7, 8, 10, 4, 28, 29, 30, 31, 32, 17, 18, 19, 12, 13, 14, 15, 16, 33, 34, 35, 36, 37, 38, 39, 40, 41, 42, 43, 44, 45, 46, 47, 48, 49, 50] rfl (by decide +kernel)
set_option maxRecDepth 20000 in
theorem gX7_number_X7_must : GoodIn wsX7_number (wsV RX7 208 RX7 yX7_must wsX7_must) := goodIn_app (goodIn_of _ (by decide +kernel)) ggX7_number_X7_must
theorem dX7_number_0 : decode cX7_number 0 = .ok (.aload_n 0, 1) := by decide +kernel
theorem dX7_number_1 : decode cX7_number 1 = .ok (.getfield 194, 3) := by decide +kernel
theorem dX7_number_4 : decode cX7_number 4 = .ok (.ifCond .eq 4, 3) := by decide +kernel
theorem dX7_number_7 : decode cX7_number 7 = .ok (.return_, 1) := by decide +kernel
theorem dX7_number_8 : decode cX7_number 8 = .ok (.aload_n 0, 1) := by decide +kernel
theorem dX7_number_9 : decode cX7_number 9 = .ok (.aload_n 0, 1) := by decide +kernel
theorem dX7_number_10 : decode cX7_number 10 = .ok (.getfield 182, 3) := by decide +kernel
theorem dX7_number_13 : decode cX7_number 13 = .ok (.invokevirtual 185, 3) := by decide +kernel
theorem dX7_number_16 : decode cX7_number 16 = .ok (.invokestatic 191, 3) := by decide +kernel
theorem dX7_number_19 : decode cX7_number 19 = .ok (.istore_n 3, 1) := by decide +kernel
theorem dX7_number_20 : decode cX7_number 20 = .ok (.iconst 0, 1) := by decide +kernel
theorem dX7_number_21 : decode cX7_number 21 = .ok (.istore 4, 2) := by decide +kernel
theorem dX7_number_23 : decode cX7_number 23 = .ok (.aload_n 0, 1) := by decide +kernel
theorem dX7_number_24 : decode cX7_number 24 = .ok (.getfield 182, 3) := by decide +kernel
theorem dX7_number_27 : decode cX7_number 27 = .ok (.istore 5, 2) := by decide +kernel
theorem dX7_number_29 : decode cX7_number 29 = .ok (.iload 5, 2) := by decide +kernel
theorem dX7_number_31 : decode cX7_number 31 = .ok (.aload_n 0, 1) := by decide +kernel
theorem dX7_number_32 : decode cX7_number 32 = .ok (.getfield 179, 3) := by decide +kernel
theorem dX7_number_35 : decode cX7_number 35 = .ok (.if_icmp .ge 44, 3) := by decide +kernel
theorem dX7_number_38 : decode cX7_number 38 = .ok (.iload_n 3, 1) := by decide +kernel
theorem dX7_number_39 : decode cX7_number 39 = .ok (.ifCond .eq 40, 3) := by decide +kernel
theorem dX7_number_42 : decode cX7_number 42 = .ok (.iload 4, 2) := by decide +kernel
theorem dX7_number_44 : decode cX7_number 44 = .ok (.sipush 9999, 3) := by decide +kernel
theorem dX7_number_47 : decode cX7_number 47 = .ok (.if_icmp .le 8, 3) := by decide +kernel
theorem dX7_number_50 : decode cX7_number 50 = .ok (.iload 4, 2) := by decide +kernel
theorem dX7_number_52 : decode cX7_number 52 = .ok (.goto 19, 3) := by decide +kernel
theorem dX7_number_55 : decode cX7_number 55 = .ok (.bipush 10, 2) := by decide +kernel
theorem dX7_number_57 : decode cX7_number 57 = .ok (.iload 4, 2) := by decide +kernel
theorem dX7_number_59 : decode cX7_number 59 = .ok (.imul, 1) := by decide +kernel
theorem dX7_number_60 : decode cX7_number 60 = .ok (.aload_n 0, 1) := by decide +kernel
theorem dX7_number_61 : decode cX7_number 61 = .ok (.getfield 28, 3) := by decide +kernel
theorem dX7_number_64 : decode cX7_number 64 = .ok (.iload 5, 2) := by decide +kernel
theorem dX7_number_66 : decode cX7_number 66 = .ok (.iaload, 1) := by decide +kernel
theorem dX7_number_67 : decode cX7_number 67 = .ok (.iadd, 1) := by decide +kernel
theorem dX7_number_68 : decode cX7_number 68 = .ok (.bipush 48, 2) := by decide +kernel
theorem dX7_number_70 : decode cX7_number 70 = .ok (.isub, 1) := by decide +kernel
theorem dX7_number_71 : decode cX7_number 71 = .ok (.istore 4, 2) := by decide +kernel
theorem dX7_number_73 : decode cX7_number 73 = .ok (.iinc 5 1, 3) := by decide +kernel
theorem dX7_number_76 : decode cX7_number 76 = .ok (.goto (-47), 3) := by decide +kernel
theorem dX7_number_79 : decode cX7_number 79 = .ok (.aload_n 0, 1) := by decide +kernel
theorem dX7_number_80 : decode cX7_number 80 = .ok (.iload 4, 2) := by decide +kernel
theorem dX7_number_82 : decode cX7_number 82 = .ok (.putfield 205, 3) := by decide +kernel
theorem dX7_number_85 : decode cX7_number 85 = .ok (.aload_n 0, 1) := by decide +kernel
theorem dX7_number_86 : decode cX7_number 86 = .ok (.iload_n 3, 1) := by decide +kernel
theorem dX7_number_87 : decode cX7_number 87 = .ok (.ifCond .eq 20, 3) := by decide +kernel
theorem dX7_number_90 : decode cX7_number 90 = .ok (.iload 4, 2) := by decide +kernel
theorem dX7_number_92 : decode cX7_number 92 = .ok (.i2l, 1) := by decide +kernel
theorem dX7_number_93 : decode cX7_number 93 = .ok (.iload_n 1, 1) := by decide +kernel
theorem dX7_number_94 : decode cX7_number 94 = .ok (.i2l, 1) := by decide +kernel
theorem dX7_number_95 : decode cX7_number 95 = .ok (.iload_n 2, 1) := by decide +kernel
theorem dX7_number_96 : decode cX7_number 96 = .ok (.i2l, 1) := by decide +kernel
theorem dX7_number_97 : decode cX7_number 97 = .ok (.invokestatic 51, 3) := by decide +kernel
theorem dX7_number_100 : decode cX7_number 100 = .ok (.ifCond .eq 7, 3) := by decide +kernel
theorem dX7_number_103 : decode cX7_number 103 = .ok (.iconst 1, 1) := by decide +kernel
theorem dX7_number_104 : decode cX7_number 104 = .ok (.goto 4, 3) := by decide +kernel
theorem dX7_number_107 : decode cX7_number 107 = .ok (.iconst 0, 1) := by decide +kernel
theorem dX7_number_108 : decode cX7_number 108 = .ok (.invokevirtual 208, 3) := by decide +kernel
theorem dX7_number_111 : decode cX7_number 111 = .ok (.return_, 1) := by decide +kernel
set_option maxRecDepth 20000 in
theorem ggX7_kindHere_X7_word : GoodIn wsX7_kindHere wsX7_word := goodIn_r _ [11, 12, 13, 14, 15, 16, 17, 18, 19, 20, 10, 21, 22, 23, 24, 25, 26, 27, 28, 29, 30, 31, 32, 33, 34, 35, 36, 37, 38, 39, 40, 41, 42, 43, 44, 45, 46, 47, 48] rfl (by decide +kernel)
set_option maxRecDepth 20000 in
theorem gX7_kindHere_X7_word : GoodIn wsX7_kindHere (wsV RX7 212 RX7 yX7_word wsX7_word) := goodIn_app (goodIn_of _ (by decide +kernel)) ggX7_kindHere_X7_word
theorem dX7_kindHere_0 : decode cX7_kindHere 0 = .ok (.aload_n 0, 1) := by decide +kernel
theorem dX7_kindHere_1 : decode cX7_kindHere 1 = .ok (.invokevirtual 212, 3) := by decide +kernel
theorem dX7_kindHere_4 : decode cX7_kindHere 4 = .ok (.lstore_n 1, 1) := by decide +kernel
theorem dX7_kindHere_5 : decode cX7_kindHere 5 = .ok (.lload_n 1, 1) := by decide +kernel
theorem dX7_kindHere_6 : decode cX7_kindHere 6 = .ok (.ldc2_w 216, 3) := by decide +kernel
theorem dX7_kindHere_9 : decode cX7_kindHere 9 = .ok (.lcmp, 1) := by decide +kernel
theorem dX7_kindHere_10 : decode cX7_kindHere 10 = .ok (.ifCond .ne 7, 3) := by decide +kernel
theorem dX7_kindHere_13 : decode cX7_kindHere 13 = .ok (.iconst 0, 1) := by decide +kernel
theorem dX7_kindHere_14 : decode cX7_kindHere 14 = .ok (.goto 64, 3) := by decide +kernel
theorem dX7_kindHere_17 : decode cX7_kindHere 17 = .ok (.lload_n 1, 1) := by decide +kernel
theorem dX7_kindHere_18 : decode cX7_kindHere 18 = .ok (.ldc2_w 218, 3) := by decide +kernel
theorem dX7_kindHere_21 : decode cX7_kindHere 21 = .ok (.lcmp, 1) := by decide +kernel
theorem dX7_kindHere_22 : decode cX7_kindHere 22 = .ok (.ifCond .ne 7, 3) := by decide +kernel
theorem dX7_kindHere_25 : decode cX7_kindHere 25 = .ok (.iconst 1, 1) := by decide +kernel
theorem dX7_kindHere_26 : decode cX7_kindHere 26 = .ok (.goto 52, 3) := by decide +kernel
theorem dX7_kindHere_29 : decode cX7_kindHere 29 = .ok (.lload_n 1, 1) := by decide +kernel
theorem dX7_kindHere_30 : decode cX7_kindHere 30 = .ok (.ldc2_w 220, 3) := by decide +kernel
theorem dX7_kindHere_33 : decode cX7_kindHere 33 = .ok (.lcmp, 1) := by decide +kernel
theorem dX7_kindHere_34 : decode cX7_kindHere 34 = .ok (.ifCond .ne 7, 3) := by decide +kernel
theorem dX7_kindHere_37 : decode cX7_kindHere 37 = .ok (.iconst 2, 1) := by decide +kernel
theorem dX7_kindHere_38 : decode cX7_kindHere 38 = .ok (.goto 40, 3) := by decide +kernel
theorem dX7_kindHere_41 : decode cX7_kindHere 41 = .ok (.lload_n 1, 1) := by decide +kernel
theorem dX7_kindHere_42 : decode cX7_kindHere 42 = .ok (.ldc2_w 222, 3) := by decide +kernel
theorem dX7_kindHere_45 : decode cX7_kindHere 45 = .ok (.lcmp, 1) := by decide +kernel
theorem dX7_kindHere_46 : decode cX7_kindHere 46 = .ok (.ifCond .ne 7, 3) := by decide +kernel
theorem dX7_kindHere_49 : decode cX7_kindHere 49 = .ok (.iconst 3, 1) := by decide +kernel
theorem dX7_kindHere_50 : decode cX7_kindHere 50 = .ok (.goto 28, 3) := by decide +kernel
theorem dX7_kindHere_53 : decode cX7_kindHere 53 = .ok (.lload_n 1, 1) := by decide +kernel
theorem dX7_kindHere_54 : decode cX7_kindHere 54 = .ok (.ldc2_w 224, 3) := by decide +kernel
theorem dX7_kindHere_57 : decode cX7_kindHere 57 = .ok (.lcmp, 1) := by decide +kernel
theorem dX7_kindHere_58 : decode cX7_kindHere 58 = .ok (.ifCond .ne 7, 3) := by decide +kernel
theorem dX7_kindHere_61 : decode cX7_kindHere 61 = .ok (.iconst 4, 1) := by decide +kernel
theorem dX7_kindHere_62 : decode cX7_kindHere 62 = .ok (.goto 16, 3) := by decide +kernel
theorem dX7_kindHere_65 : decode cX7_kindHere 65 = .ok (.lload_n 1, 1) := by decide +kernel
theorem dX7_kindHere_66 : decode cX7_kindHere 66 = .ok (.ldc2_w 226, 3) := by decide +kernel
theorem dX7_kindHere_69 : decode cX7_kindHere 69 = .ok (.lcmp, 1) := by decide +kernel
theorem dX7_kindHere_70 : decode cX7_kindHere 70 = .ok (.ifCond .ne 7, 3) := by decide +kernel
theorem dX7_kindHere_73 : decode cX7_kindHere 73 = .ok (.iconst 5, 1) := by decide +kernel
theorem dX7_kindHere_74 : decode cX7_kindHere 74 = .ok (.goto 4, 3) := by decide +kernel
theorem dX7_kindHere_77 : decode cX7_kindHere 77 = .ok (.iconst (-1), 1) := by decide +kernel
theorem dX7_kindHere_78 : decode cX7_kindHere 78 = .ok (.ireturn, 1) := by decide +kernel
set_option maxRecDepth 20000 in
theorem ggX7_isNumberHere_X7_byteAt : GoodIn wsX7_isNumberHere wsX7_byteAt := goodIn_r _ [7, 8, 9, 18, 19, 20, 21, 22, 23, 24, 25, 26, 27, 28, 29, 30, 31, 32, 33, 34, 35] rfl (by decide +kernel)
set_option maxRecDepth 20000 in
theorem gX7_isNumberHere_X7_byteAt : GoodIn wsX7_isNumberHere (wsV RX7 185 RX7 yX7_byteAt wsX7_byteAt) := goodIn_app (goodIn_of _ (by decide +kernel)) ggX7_isNumberHere_X7_byteAt
set_option maxRecDepth 20000 in
theorem ggX7_isNumberHere_X7_isDigit : GoodIn wsX7_isNumberHere wsX7_isDigit := goodIn_r _ [12, 13, 14, 15, 16, 6, 17] rfl (by decide +kernel)
set_option maxRecDepth 20000 in
theorem gX7_isNumberHere_X7_isDigit : GoodIn wsX7_isNumberHere (va_wsS RX7 191 yX7_isDigit wsX7_isDigit) := goodIn_app (goodIn_of _ (by decide +kernel)) ggX7_isNumberHere_X7_isDigit
theorem dX7_isNumberHere_0 : decode cX7_isNumberHere 0 = .ok (.aload_n 0, 1) := by decide +kernel
theorem dX7_isNumberHere_1 : decode cX7_isNumberHere 1 = .ok (.getfield 194, 3) := by decide +kernel
theorem dX7_isNumberHere_4 : decode cX7_isNumberHere 4 = .ok (.ifCond .ne 21, 3) := by decide +kernel
theorem dX7_isNumberHere_7 : decode cX7_isNumberHere 7 = .ok (.aload_n 0, 1) := by decide +kernel
theorem dX7_isNumberHere_8 : decode cX7_isNumberHere 8 = .ok (.aload_n 0, 1) := by decide +kernel
theorem dX7_isNumberHere_9 : decode cX7_isNumberHere 9 = .ok (.getfield 182, 3) := by decide +kernel
theorem dX7_isNumberHere_12 : decode cX7_isNumberHere 12 = .ok (.invokevirtual 185, 3) := by decide +kernel
theorem dX7_isNumberHere_15 : decode cX7_isNumberHere 15 = .ok (.invokestatic 191, 3) := by decide +kernel
theorem dX7_isNumberHere_18 : decode cX7_isNumberHere 18 = .ok (.ifCond .eq 7, 3) := by decide +kernel
theorem dX7_isNumberHere_21 : decode cX7_isNumberHere 21 = .ok (.iconst 1, 1) := by decide +kernel
theorem dX7_isNumberHere_22 : decode cX7_isNumberHere 22 = .ok (.goto 4, 3) := by decide +kernel
theorem dX7_isNumberHere_25 : decode cX7_isNumberHere 25 = .ok (.iconst 0, 1) := by decide +kernel
theorem dX7_isNumberHere_26 : decode cX7_isNumberHere 26 = .ok (.ireturn, 1) := by decide +kernel
set_option maxRecDepth 20000 in
theorem ggX7_personItem_X7_must : GoodIn wsX7_personItem wsX7_must := goodIn_r _ [10, 2, 11, 12, 13, 9, 14, 15, 16, 17, 18, 19, 20, 21, 22, 23, 24, 25, 26, 27, 28, 29, 30, 31, 32, 33, 34, 35, 57, 58, 59, 60, 61, 62, 63, 64, 65, 66, 67, 68, 69, 70, 71, 72, 73, 74] rfl (by decide +kernel)
set_option maxRecDepth 20000 in
theorem gX7_personItem_X7_must : GoodIn wsX7_personItem (wsV RX7 208 RX7 yX7_must wsX7_must) := goodIn_app (goodIn_of _ (by decide +kernel)) ggX7_personItem_X7_must
set_option maxRecDepth 20000 in
theorem ggX7_personItem_X7_adds : GoodIn wsX7_personItem wsX7_adds := goodIn_r _ [39, 1, 40, 41, 9, 42, 57, 58, 59, 60, 61, 62, 63, 64, 65, 66, 67, 68, 69, 70, 71, 72, 73, 74] rfl (by decide +kernel)
set_option maxRecDepth 20000 in
theorem gX7_personItem_X7_adds : GoodIn wsX7_personItem (wsV RX7 90 RX7 yX7_adds wsX7_adds) := goodIn_app (goodIn_of _ (by decide +kernel)) ggX7_personItem_X7_adds
set_option maxRecDepth 20000 in
theorem ggX7_personItem_X7_word : GoodIn wsX7_personItem wsX7_word := goodIn_r _ [46, 16, 15, 47, 48, 22, 2, 18, 19, 20, 9, 21, 17, 23, 24, 25, 26, 27, 28, 29, 30, 57, 58, 59, 60, 61, 62, 63, 64, 65, 66, 67, 68, 69, 70, 71, 72, 73, 74] rfl (by decide +kernel)
set_option maxRecDepth 20000 in
theorem gX7_personItem_X7_word : GoodIn wsX7_personItem (wsV RX7 212 RX7 yX7_word wsX7_word) := goodIn_app (goodIn_of _ (by decide +kernel)) ggX7_personItem_X7_word
set_option maxRecDepth 20000 in
theorem ggX7_personItem_X7_number : GoodIn wsX7_personItem wsX7_number := goodIn_r _ [52, 2, 16, 15, 22, 4, 18, 19, 20, 9, 21, 17, 31, 32, 33, 34, 35, 28, 29, 30, 6, 7, 8, 10, 11, 12, 13, 14, 23, 24, 25, 26, 27, 57, 58, 59, 60, 61, 62, 63, 64, 65, 66, 67, 68, 69, 70, 71, 72, 73, 74] rfl (by decide +kernel)
set_option maxRecDepth 20000 in
theorem gX7_personItem_X7_number : GoodIn wsX7_personItem (wsV RX7 230 RX7 yX7_number wsX7_number) := goodIn_app (goodIn_of _ (by decide +kernel)) ggX7_personItem_X7_number
set_option maxRecDepth 20000 in
theorem ggX7_personItem_X7_spot : GoodIn wsX7_personItem wsX7_spot := goodIn_r _ [42] rfl (by decide +kernel)
set_option maxRecDepth 20000 in
theorem gX7_personItem_X7_spot : GoodIn wsX7_personItem (va_wsS RX7 57 yX7_spot wsX7_spot) := goodIn_app (goodIn_of _ (by decide +kernel)) ggX7_personItem_X7_spot
set_option maxRecDepth 20000 in
theorem ggX7_personItem_X7_isNumberHere : GoodIn wsX7_personItem wsX7_isNumberHere := goodIn_r _ [56, 2, 16, 18, 19, 20, 9, 21, 17, 22, 31, 32, 33, 34, 35, 28, 29, 30, 57, 58, 59, 60, 61, 62, 63, 64, 65, 66, 67, 68, 69, 70, 71, 72, 73, 74] rfl (by decide +kernel)
set_option maxRecDepth 20000 in
theorem gX7_personItem_X7_isNumberHere : GoodIn wsX7_personItem (wsV RX7 234 RX7 yX7_isNumberHere wsX7_isNumberHere) := goodIn_app (goodIn_of _ (by decide +kernel)) ggX7_personItem_X7_isNumberHere
theorem dX7_personItem_0 : decode cX7_personItem 0 = .ok (.aload_n 0, 1) := by decide +kernel
theorem dX7_personItem_1 : decode cX7_personItem 1 = .ok (.aload_n 0, 1) := by decide +kernel
theorem dX7_personItem_2 : decode cX7_personItem 2 = .ok (.getfield 7, 3) := by decide +kernel
theorem dX7_personItem_5 : decode cX7_personItem 5 = .ok (.iconst 0, 1) := by decide +kernel
theorem dX7_personItem_6 : decode cX7_personItem 6 = .ok (.iaload, 1) := by decide +kernel
theorem dX7_personItem_7 : decode cX7_personItem 7 = .ok (.bipush 8, 2) := by decide +kernel
theorem dX7_personItem_9 : decode cX7_personItem 9 = .ok (.if_icmp .ge 7, 3) := by decide +kernel
theorem dX7_personItem_12 : decode cX7_personItem 12 = .ok (.iconst 1, 1) := by decide +kernel
theorem dX7_personItem_13 : decode cX7_personItem 13 = .ok (.goto 4, 3) := by decide +kernel
theorem dX7_personItem_16 : decode cX7_personItem 16 = .ok (.iconst 0, 1) := by decide +kernel
theorem dX7_personItem_17 : decode cX7_personItem 17 = .ok (.invokevirtual 208, 3) := by decide +kernel
theorem dX7_personItem_20 : decode cX7_personItem 20 = .ok (.aload_n 0, 1) := by decide +kernel
theorem dX7_personItem_21 : decode cX7_personItem 21 = .ok (.getfield 194, 3) := by decide +kernel
theorem dX7_personItem_24 : decode cX7_personItem 24 = .ok (.ifCond .eq 4, 3) := by decide +kernel
theorem dX7_personItem_27 : decode cX7_personItem 27 = .ok (.return_, 1) := by decide +kernel
theorem dX7_personItem_28 : decode cX7_personItem 28 = .ok (.aload_n 0, 1) := by decide +kernel
theorem dX7_personItem_29 : decode cX7_personItem 29 = .ok (.iload_n 1, 1) := by decide +kernel
theorem dX7_personItem_30 : decode cX7_personItem 30 = .ok (.invokevirtual 90, 3) := by decide +kernel
theorem dX7_personItem_33 : decode cX7_personItem 33 = .ok (.istore_n 2, 1) := by decide +kernel
theorem dX7_personItem_34 : decode cX7_personItem 34 = .ok (.aload_n 0, 1) := by decide +kernel
theorem dX7_personItem_35 : decode cX7_personItem 35 = .ok (.invokevirtual 212, 3) := by decide +kernel
theorem dX7_personItem_38 : decode cX7_personItem 38 = .ok (.ldc2_w 228, 3) := by decide +kernel
theorem dX7_personItem_41 : decode cX7_personItem 41 = .ok (.lcmp, 1) := by decide +kernel
theorem dX7_personItem_42 : decode cX7_personItem 42 = .ok (.ifCond .ne 62, 3) := by decide +kernel
theorem dX7_personItem_45 : decode cX7_personItem 45 = .ok (.aload_n 0, 1) := by decide +kernel
theorem dX7_personItem_46 : decode cX7_personItem 46 = .ok (.iconst 1, 1) := by decide +kernel
theorem dX7_personItem_47 : decode cX7_personItem 47 = .ok (.invokevirtual 208, 3) := by decide +kernel
theorem dX7_personItem_50 : decode cX7_personItem 50 = .ok (.iconst 0, 1) := by decide +kernel
theorem dX7_personItem_51 : decode cX7_personItem 51 = .ok (.istore_n 3, 1) := by decide +kernel
theorem dX7_personItem_52 : decode cX7_personItem 52 = .ok (.aload_n 0, 1) := by decide +kernel
theorem dX7_personItem_53 : decode cX7_personItem 53 = .ok (.iconst 0, 1) := by decide +kernel
theorem dX7_personItem_54 : decode cX7_personItem 54 = .ok (.bipush 7, 2) := by decide +kernel
theorem dX7_personItem_56 : decode cX7_personItem 56 = .ok (.invokevirtual 230, 3) := by decide +kernel
theorem dX7_personItem_59 : decode cX7_personItem 59 = .ok (.aload_n 0, 1) := by decide +kernel
theorem dX7_personItem_60 : decode cX7_personItem 60 = .ok (.getfield 7, 3) := by decide +kernel
theorem dX7_personItem_63 : decode cX7_personItem 63 = .ok (.iload_n 2, 1) := by decide +kernel
theorem dX7_personItem_64 : decode cX7_personItem 64 = .ok (.iconst 1, 1) := by decide +kernel
theorem dX7_personItem_65 : decode cX7_personItem 65 = .ok (.invokestatic 57, 3) := by decide +kernel
theorem dX7_personItem_68 : decode cX7_personItem 68 = .ok (.dup2, 1) := by decide +kernel
theorem dX7_personItem_69 : decode cX7_personItem 69 = .ok (.iaload, 1) := by decide +kernel
theorem dX7_personItem_70 : decode cX7_personItem 70 = .ok (.aload_n 0, 1) := by decide +kernel
theorem dX7_personItem_71 : decode cX7_personItem 71 = .ok (.getfield 194, 3) := by decide +kernel
theorem dX7_personItem_74 : decode cX7_personItem 74 = .ok (.ifCond .eq 7, 3) := by decide +kernel
theorem dX7_personItem_77 : decode cX7_personItem 77 = .ok (.iconst 0, 1) := by decide +kernel
theorem dX7_personItem_78 : decode cX7_personItem 78 = .ok (.goto 9, 3) := by decide +kernel
theorem dX7_personItem_81 : decode cX7_personItem 81 = .ok (.iconst 1, 1) := by decide +kernel
theorem dX7_personItem_82 : decode cX7_personItem 82 = .ok (.aload_n 0, 1) := by decide +kernel
theorem dX7_personItem_83 : decode cX7_personItem 83 = .ok (.getfield 205, 3) := by decide +kernel
theorem dX7_personItem_86 : decode cX7_personItem 86 = .ok (.ishl, 1) := by decide +kernel
theorem dX7_personItem_87 : decode cX7_personItem 87 = .ok (.ior, 1) := by decide +kernel
theorem dX7_personItem_88 : decode cX7_personItem 88 = .ok (.iastore, 1) := by decide +kernel
theorem dX7_personItem_89 : decode cX7_personItem 89 = .ok (.iinc 3 1, 3) := by decide +kernel
theorem dX7_personItem_92 : decode cX7_personItem 92 = .ok (.iload_n 3, 1) := by decide +kernel
theorem dX7_personItem_93 : decode cX7_personItem 93 = .ok (.iconst 4, 1) := by decide +kernel
theorem dX7_personItem_94 : decode cX7_personItem 94 = .ok (.if_icmp .ge 10, 3) := by decide +kernel
theorem dX7_personItem_97 : decode cX7_personItem 97 = .ok (.aload_n 0, 1) := by decide +kernel
theorem dX7_personItem_98 : decode cX7_personItem 98 = .ok (.invokevirtual 234, 3) := by decide +kernel
theorem dX7_personItem_101 : decode cX7_personItem 101 = .ok (.ifCond .ne (-49), 3) := by decide +kernel
theorem dX7_personItem_104 : decode cX7_personItem 104 = .ok (.aload_n 0, 1) := by decide +kernel
theorem dX7_personItem_105 : decode cX7_personItem 105 = .ok (.invokevirtual 212, 3) := by decide +kernel
theorem dX7_personItem_108 : decode cX7_personItem 108 = .ok (.ldc2_w 238, 3) := by decide +kernel
theorem dX7_personItem_111 : decode cX7_personItem 111 = .ok (.lcmp, 1) := by decide +kernel
theorem dX7_personItem_112 : decode cX7_personItem 112 = .ok (.ifCond .ne 39, 3) := by decide +kernel
theorem dX7_personItem_115 : decode cX7_personItem 115 = .ok (.aload_n 0, 1) := by decide +kernel
theorem dX7_personItem_116 : decode cX7_personItem 116 = .ok (.iconst 1, 1) := by decide +kernel
theorem dX7_personItem_117 : decode cX7_personItem 117 = .ok (.invokevirtual 208, 3) := by decide +kernel
theorem dX7_personItem_120 : decode cX7_personItem 120 = .ok (.aload_n 0, 1) := by decide +kernel
theorem dX7_personItem_121 : decode cX7_personItem 121 = .ok (.iconst 0, 1) := by decide +kernel
theorem dX7_personItem_122 : decode cX7_personItem 122 = .ok (.iload_n 2, 1) := by decide +kernel
theorem dX7_personItem_123 : decode cX7_personItem 123 = .ok (.invokevirtual 230, 3) := by decide +kernel
theorem dX7_personItem_126 : decode cX7_personItem 126 = .ok (.aload_n 0, 1) := by decide +kernel
theorem dX7_personItem_127 : decode cX7_personItem 127 = .ok (.getfield 7, 3) := by decide +kernel
theorem dX7_personItem_130 : decode cX7_personItem 130 = .ok (.iload_n 2, 1) := by decide +kernel
theorem dX7_personItem_131 : decode cX7_personItem 131 = .ok (.iconst 2, 1) := by decide +kernel
theorem dX7_personItem_132 : decode cX7_personItem 132 = .ok (.invokestatic 57, 3) := by decide +kernel
theorem dX7_personItem_135 : decode cX7_personItem 135 = .ok (.aload_n 0, 1) := by decide +kernel
theorem dX7_personItem_136 : decode cX7_personItem 136 = .ok (.getfield 194, 3) := by decide +kernel
theorem dX7_personItem_139 : decode cX7_personItem 139 = .ok (.ifCond .eq 7, 3) := by decide +kernel
theorem dX7_personItem_142 : decode cX7_personItem 142 = .ok (.iload_n 2, 1) := by decide +kernel
theorem dX7_personItem_143 : decode cX7_personItem 143 = .ok (.goto 7, 3) := by decide +kernel
theorem dX7_personItem_146 : decode cX7_personItem 146 = .ok (.aload_n 0, 1) := by decide +kernel
theorem dX7_personItem_147 : decode cX7_personItem 147 = .ok (.getfield 205, 3) := by decide +kernel
theorem dX7_personItem_150 : decode cX7_personItem 150 = .ok (.iastore, 1) := by decide +kernel
theorem dX7_personItem_151 : decode cX7_personItem 151 = .ok (.return_, 1) := by decide +kernel
set_option maxRecDepth 20000 in
theorem ggX7_partItem_X7_word : GoodIn wsX7_partItem wsX7_word := goodIn_r _ [8, 9, 10, 11, 12, 13, 2, 14, 15, 16, 7, 17, 18, 19, 20, 21, 22, 23, 24, 25, 26, 44, 45, 46, 47, 48, 49, 50, 51, 52, 53, 54, 55, 56, 57, 58, 59, 60, 61] rfl (by decide +kernel)
set_option maxRecDepth 20000 in
theorem gX7_partItem_X7_word : GoodIn wsX7_partItem (wsV RX7 212 RX7 yX7_word wsX7_word) := goodIn_app (goodIn_of _ (by decide +kernel)) ggX7_partItem_X7_word
set_option maxRecDepth 20000 in
theorem ggX7_partItem_X7_must : GoodIn wsX7_partItem wsX7_must := goodIn_r _ [30, 2, 31, 32, 33, 7, 34, 10, 9, 18, 14, 15, 16, 17, 13, 19, 20, 21, 22, 23, 24, 25, 26, 35, 36, 37, 38, 39, 44, 45, 46, 47, 48, 49, 50, 51, 52, 53, 54, 55, 56, 57, 58, 59, 60, 61] rfl (by decide +kernel)
set_option maxRecDepth 20000 in
theorem gX7_partItem_X7_must : GoodIn wsX7_partItem (wsV RX7 208 RX7 yX7_must wsX7_must) := goodIn_app (goodIn_of _ (by decide +kernel)) ggX7_partItem_X7_must
set_option maxRecDepth 20000 in
theorem ggX7_partItem_X7_number : GoodIn wsX7_partItem wsX7_number := goodIn_r _ [43, 2, 9, 10, 13, 3, 14, 15, 16, 7, 17, 18, 35, 36, 37, 38, 39, 24, 25, 26, 27, 28, 29, 30, 31, 32, 33, 34, 19, 20, 21, 22, 23, 44, 45, 46, 47, 48, 49, 50, 51, 52, 53, 54, 55, 56, 57, 58, 59, 60, 61] rfl (by decide +kernel)
set_option maxRecDepth 20000 in
theorem gX7_partItem_X7_number : GoodIn wsX7_partItem (wsV RX7 230 RX7 yX7_number wsX7_number) := goodIn_app (goodIn_of _ (by decide +kernel)) ggX7_partItem_X7_number
theorem dX7_partItem_0 : decode cX7_partItem 0 = .ok (.aload_n 0, 1) := by decide +kernel
theorem dX7_partItem_1 : decode cX7_partItem 1 = .ok (.invokevirtual 212, 3) := by decide +kernel
theorem dX7_partItem_4 : decode cX7_partItem 4 = .ok (.lload_n 1, 1) := by decide +kernel
theorem dX7_partItem_5 : decode cX7_partItem 5 = .ok (.lcmp, 1) := by decide +kernel
theorem dX7_partItem_6 : decode cX7_partItem 6 = .ok (.ifCond .ne 41, 3) := by decide +kernel
theorem dX7_partItem_9 : decode cX7_partItem 9 = .ok (.aload_n 0, 1) := by decide +kernel
theorem dX7_partItem_10 : decode cX7_partItem 10 = .ok (.iconst 1, 1) := by decide +kernel
theorem dX7_partItem_11 : decode cX7_partItem 11 = .ok (.invokevirtual 208, 3) := by decide +kernel
theorem dX7_partItem_14 : decode cX7_partItem 14 = .ok (.aload_n 0, 1) := by decide +kernel
theorem dX7_partItem_15 : decode cX7_partItem 15 = .ok (.iconst 0, 1) := by decide +kernel
theorem dX7_partItem_16 : decode cX7_partItem 16 = .ok (.iload 4, 2) := by decide +kernel
theorem dX7_partItem_18 : decode cX7_partItem 18 = .ok (.invokevirtual 230, 3) := by decide +kernel
theorem dX7_partItem_21 : decode cX7_partItem 21 = .ok (.aload_n 0, 1) := by decide +kernel
theorem dX7_partItem_22 : decode cX7_partItem 22 = .ok (.getfield 7, 3) := by decide +kernel
theorem dX7_partItem_25 : decode cX7_partItem 25 = .ok (.iload_n 3, 1) := by decide +kernel
theorem dX7_partItem_26 : decode cX7_partItem 26 = .ok (.aload_n 0, 1) := by decide +kernel
theorem dX7_partItem_27 : decode cX7_partItem 27 = .ok (.getfield 194, 3) := by decide +kernel
theorem dX7_partItem_30 : decode cX7_partItem 30 = .ok (.ifCond .eq 12, 3) := by decide +kernel
theorem dX7_partItem_33 : decode cX7_partItem 33 = .ok (.aload_n 0, 1) := by decide +kernel
theorem dX7_partItem_34 : decode cX7_partItem 34 = .ok (.getfield 7, 3) := by decide +kernel
theorem dX7_partItem_37 : decode cX7_partItem 37 = .ok (.iload_n 3, 1) := by decide +kernel
theorem dX7_partItem_38 : decode cX7_partItem 38 = .ok (.iaload, 1) := by decide +kernel
theorem dX7_partItem_39 : decode cX7_partItem 39 = .ok (.goto 7, 3) := by decide +kernel
theorem dX7_partItem_42 : decode cX7_partItem 42 = .ok (.aload_n 0, 1) := by decide +kernel
theorem dX7_partItem_43 : decode cX7_partItem 43 = .ok (.getfield 205, 3) := by decide +kernel
theorem dX7_partItem_46 : decode cX7_partItem 46 = .ok (.iastore, 1) := by decide +kernel
theorem dX7_partItem_47 : decode cX7_partItem 47 = .ok (.return_, 1) := by decide +kernel
set_option maxRecDepth 20000 in
theorem ggX7_farmItem_X7_must : GoodIn wsX7_farmItem wsX7_must := goodIn_r _ [11, 1, 12, 13, 14, 10, 15, 16, 17, 18, 19, 20, 21, 22, 23, 24, 25, 26, 27, 28, 29, 30, 31, 32, 33, 34, 35, 36, 54, 55, 56, 57, 58, 59, 60, 61, 62, 63, 64, 65, 66, 67, 68, 69, 70, 71] rfl (by decide +kernel)
set_option maxRecDepth 20000 in
theorem gX7_farmItem_X7_must : GoodIn wsX7_farmItem (wsV RX7 208 RX7 yX7_must wsX7_must) := goodIn_app (goodIn_of _ (by decide +kernel)) ggX7_farmItem_X7_must
set_option maxRecDepth 20000 in
theorem ggX7_farmItem_X7_number : GoodIn wsX7_farmItem wsX7_number := goodIn_r _ [40, 1, 17, 16, 23, 2, 19, 20, 21, 10, 22, 18, 32, 33, 34, 35, 36, 29, 30, 31, 7, 8, 9, 11, 12, 13, 14, 15, 24, 25, 26, 27, 28, 54, 55, 56, 57, 58, 59, 60, 61, 62, 63, 64, 65, 66, 67, 68, 69, 70, 71] rfl (by decide +kernel)
set_option maxRecDepth 20000 in
theorem gX7_farmItem_X7_number : GoodIn wsX7_farmItem (wsV RX7 230 RX7 yX7_number wsX7_number) := goodIn_app (goodIn_of _ (by decide +kernel)) ggX7_farmItem_X7_number
set_option maxRecDepth 20000 in
theorem ggX7_farmItem_X7_field : GoodIn wsX7_farmItem wsX7_field := goodIn_r _ [43] rfl (by decide +kernel)
set_option maxRecDepth 20000 in
theorem gX7_farmItem_X7_field : GoodIn wsX7_farmItem (va_wsS RX7 44 yX7_field wsX7_field) := goodIn_app (goodIn_of _ (by decide +kernel)) ggX7_farmItem_X7_field
set_option maxRecDepth 20000 in
theorem ggX7_farmItem_X7_partItem : GoodIn wsX7_farmItem wsX7_partItem := goodIn_r _ [47, 6, 1, 2, 48, 49, 50, 10, 51, 17, 16, 52, 53, 23, 19, 20, 21, 22, 18, 24, 25, 26, 27, 28, 29, 30, 31, 7, 8, 9, 11, 12, 13, 14, 15, 32, 33, 34, 35, 36, 37, 38, 39, 40, 54, 55, 56, 57, 58, 59, 60, 61, 62, 63, 64, 65, 66, 67, 68, 69, 70, 71] rfl (by decide +kernel)
set_option maxRecDepth 20000 in
theorem gX7_farmItem_X7_partItem : GoodIn wsX7_farmItem (wsV RX7 242 RX7 yX7_partItem wsX7_partItem) := goodIn_app (goodIn_of _ (by decide +kernel)) ggX7_farmItem_X7_partItem
theorem dX7_farmItem_0 : decode cX7_farmItem 0 = .ok (.aload_n 0, 1) := by decide +kernel
theorem dX7_farmItem_1 : decode cX7_farmItem 1 = .ok (.iconst 1, 1) := by decide +kernel
theorem dX7_farmItem_2 : decode cX7_farmItem 2 = .ok (.invokevirtual 208, 3) := by decide +kernel
theorem dX7_farmItem_5 : decode cX7_farmItem 5 = .ok (.aload_n 0, 1) := by decide +kernel
theorem dX7_farmItem_6 : decode cX7_farmItem 6 = .ok (.iconst 0, 1) := by decide +kernel
theorem dX7_farmItem_7 : decode cX7_farmItem 7 = .ok (.iconst 3, 1) := by decide +kernel
theorem dX7_farmItem_8 : decode cX7_farmItem 8 = .ok (.invokevirtual 230, 3) := by decide +kernel
theorem dX7_farmItem_11 : decode cX7_farmItem 11 = .ok (.aload_n 0, 1) := by decide +kernel
theorem dX7_farmItem_12 : decode cX7_farmItem 12 = .ok (.getfield 194, 3) := by decide +kernel
theorem dX7_farmItem_15 : decode cX7_farmItem 15 = .ok (.ifCond .eq 7, 3) := by decide +kernel
theorem dX7_farmItem_18 : decode cX7_farmItem 18 = .ok (.iconst 0, 1) := by decide +kernel
theorem dX7_farmItem_19 : decode cX7_farmItem 19 = .ok (.goto 7, 3) := by decide +kernel
theorem dX7_farmItem_22 : decode cX7_farmItem 22 = .ok (.aload_n 0, 1) := by decide +kernel
theorem dX7_farmItem_23 : decode cX7_farmItem 23 = .ok (.getfield 205, 3) := by decide +kernel
theorem dX7_farmItem_26 : decode cX7_farmItem 26 = .ok (.istore_n 1, 1) := by decide +kernel
theorem dX7_farmItem_27 : decode cX7_farmItem 27 = .ok (.aload_n 0, 1) := by decide +kernel
theorem dX7_farmItem_28 : decode cX7_farmItem 28 = .ok (.ldc2_w 240, 3) := by decide +kernel
theorem dX7_farmItem_31 : decode cX7_farmItem 31 = .ok (.iload_n 1, 1) := by decide +kernel
theorem dX7_farmItem_32 : decode cX7_farmItem 32 = .ok (.iconst 0, 1) := by decide +kernel
theorem dX7_farmItem_33 : decode cX7_farmItem 33 = .ok (.invokestatic 44, 3) := by decide +kernel
theorem dX7_farmItem_36 : decode cX7_farmItem 36 = .ok (.bipush 20, 2) := by decide +kernel
theorem dX7_farmItem_38 : decode cX7_farmItem 38 = .ok (.invokevirtual 242, 3) := by decide +kernel
theorem dX7_farmItem_41 : decode cX7_farmItem 41 = .ok (.aload_n 0, 1) := by decide +kernel
theorem dX7_farmItem_42 : decode cX7_farmItem 42 = .ok (.ldc2_w 246, 3) := by decide +kernel
theorem dX7_farmItem_45 : decode cX7_farmItem 45 = .ok (.iload_n 1, 1) := by decide +kernel
theorem dX7_farmItem_46 : decode cX7_farmItem 46 = .ok (.iconst 1, 1) := by decide +kernel
theorem dX7_farmItem_47 : decode cX7_farmItem 47 = .ok (.invokestatic 44, 3) := by decide +kernel
theorem dX7_farmItem_50 : decode cX7_farmItem 50 = .ok (.sipush 9999, 3) := by decide +kernel
theorem dX7_farmItem_53 : decode cX7_farmItem 53 = .ok (.invokevirtual 242, 3) := by decide +kernel
theorem dX7_farmItem_56 : decode cX7_farmItem 56 = .ok (.aload_n 0, 1) := by decide +kernel
theorem dX7_farmItem_57 : decode cX7_farmItem 57 = .ok (.ldc2_w 248, 3) := by decide +kernel
theorem dX7_farmItem_60 : decode cX7_farmItem 60 = .ok (.iload_n 1, 1) := by decide +kernel
theorem dX7_farmItem_61 : decode cX7_farmItem 61 = .ok (.iconst 3, 1) := by decide +kernel
theorem dX7_farmItem_62 : decode cX7_farmItem 62 = .ok (.invokestatic 44, 3) := by decide +kernel
theorem dX7_farmItem_65 : decode cX7_farmItem 65 = .ok (.aload_n 0, 1) := by decide +kernel
theorem dX7_farmItem_66 : decode cX7_farmItem 66 = .ok (.getfield 7, 3) := by decide +kernel
theorem dX7_farmItem_69 : decode cX7_farmItem 69 = .ok (.iconst 0, 1) := by decide +kernel
theorem dX7_farmItem_70 : decode cX7_farmItem 70 = .ok (.iaload, 1) := by decide +kernel
theorem dX7_farmItem_71 : decode cX7_farmItem 71 = .ok (.iconst 1, 1) := by decide +kernel
theorem dX7_farmItem_72 : decode cX7_farmItem 72 = .ok (.isub, 1) := by decide +kernel
theorem dX7_farmItem_73 : decode cX7_farmItem 73 = .ok (.invokevirtual 242, 3) := by decide +kernel
theorem dX7_farmItem_76 : decode cX7_farmItem 76 = .ok (.return_, 1) := by decide +kernel
set_option maxRecDepth 20000 in
theorem ggX7_item_X7_kindHere : GoodIn wsX7_item wsX7_kindHere := goodIn_r _ [11, 12, 13, 14, 15, 16, 17, 18, 19, 20, 10, 21, 22, 23, 24, 25, 26, 5, 27, 28, 29, 30, 31, 32, 33, 34, 35, 36, 37, 38, 39, 88, 89, 90, 91, 92, 93, 94, 95, 96, 97, 98, 99, 100, 101, 102, 103, 104, 105] rfl (by decide +kernel)
set_option maxRecDepth 20000 in
theorem gX7_item_X7_kindHere : GoodIn wsX7_item (wsV RX7 250 RX7 yX7_kindHere wsX7_kindHere) := goodIn_app (goodIn_of _ (by decide +kernel)) ggX7_item_X7_kindHere
set_option maxRecDepth 20000 in
theorem ggX7_item_X7_word : GoodIn wsX7_item wsX7_word := goodIn_r _ [21, 22, 23, 24, 25, 26, 5, 27, 28, 29, 10, 30, 31, 32, 33, 34, 35, 36, 37, 38, 39, 88, 89, 90, 91, 92, 93, 94, 95, 96, 97, 98, 99, 100, 101, 102, 103, 104, 105] rfl (by decide +kernel)
set_option maxRecDepth 20000 in
theorem gX7_item_X7_word : GoodIn wsX7_item (wsV RX7 212 RX7 yX7_word wsX7_word) := goodIn_app (goodIn_of _ (by decide +kernel)) ggX7_item_X7_word
set_option maxRecDepth 20000 in
theorem ggX7_item_X7_personItem : GoodIn wsX7_item wsX7_personItem := goodIn_r _ [43, 4, 5, 44, 6, 45, 46, 47, 48, 10, 49, 50, 51, 52, 53, 23, 22, 31, 27, 28, 29, 30, 26, 32, 33, 34, 35, 36, 37, 38, 39, 54, 55, 56, 57, 58, 59, 60, 61, 62, 63, 64, 65, 18, 19, 20, 21, 24, 25, 66, 67, 68, 69, 70, 71, 72, 73, 88, 89, 90, 91, 92, 93, 94, 95, 96, 97, 98, 99, 100, 101, 102, 103, 104, 105] rfl (by decide +kernel)
set_option maxRecDepth 20000 in
theorem gX7_item_X7_personItem : GoodIn wsX7_item (wsV RX7 254 RX7 yX7_personItem wsX7_personItem) := goodIn_app (goodIn_of _ (by decide +kernel)) ggX7_item_X7_personItem
set_option maxRecDepth 20000 in
theorem ggX7_item_X7_farmItem : GoodIn wsX7_item wsX7_farmItem := goodIn_r _ [77, 5, 6, 78, 79, 80, 4, 46, 47, 48, 10, 49, 50, 51, 52, 53, 23, 22, 31, 27, 28, 29, 30, 26, 32, 33, 34, 35, 36, 37, 38, 39, 54, 55, 56, 57, 58, 66, 67, 68, 69, 81, 82, 83, 84, 85, 86, 87, 18, 19, 20, 21, 24, 25, 88, 89, 90, 91, 92, 93, 94, 95, 96, 97, 98, 99, 100, 101, 102, 103, 104, 105] rfl (by decide +kernel)
set_option maxRecDepth 20000 in
theorem gX7_item_X7_farmItem : GoodIn wsX7_item (wsV RX7 259 RX7 yX7_farmItem wsX7_farmItem) := goodIn_app (goodIn_of _ (by decide +kernel)) ggX7_item_X7_farmItem
set_option maxRecDepth 20000 in
theorem ggX7_item_X7_must : GoodIn wsX7_item wsX7_must := goodIn_r _ [49, 5, 50, 51, 52, 10, 53, 23, 22, 31, 27, 28, 29, 30, 26, 32, 33, 34, 35, 36, 37, 38, 39, 54, 55, 56, 57, 58, 88, 89, 90, 91, 92, 93, 94, 95, 96, 97, 98, 99, 100, 101, 102, 103, 104, 105] rfl (by decide +kernel)
set_option maxRecDepth 20000 in
theorem gX7_item_X7_must : GoodIn wsX7_item (wsV RX7 208 RX7 yX7_must wsX7_must) := goodIn_app (goodIn_of _ (by decide +kernel)) ggX7_item_X7_must
set_option maxRecDepth 20000 in
theorem ggX7_item_X7_number : GoodIn wsX7_item wsX7_number := goodIn_r _ [69, 5, 22, 23, 26, 6, 27, 28, 29, 10, 30, 31, 54, 55, 56, 57, 58, 37, 38, 39, 46, 47, 48, 49, 50, 51, 52, 53, 32, 33, 34, 35, 36, 88, 89, 90, 91, 92, 93, 94, 95, 96, 97, 98, 99, 100, 101, 102, 103, 104, 105] rfl (by decide +kernel)
set_option maxRecDepth 20000 in
theorem gX7_item_X7_number : GoodIn wsX7_item (wsV RX7 230 RX7 yX7_number wsX7_number) := goodIn_app (goodIn_of _ (by decide +kernel)) ggX7_item_X7_number
theorem dX7_item_0 : decode cX7_item 0 = .ok (.aload_n 0, 1) := by decide +kernel
theorem dX7_item_1 : decode cX7_item 1 = .ok (.invokevirtual 250, 3) := by decide +kernel
theorem dX7_item_4 : decode cX7_item 4 = .ok (.istore_n 1, 1) := by decide +kernel
theorem dX7_item_5 : decode cX7_item 5 = .ok (.aload_n 0, 1) := by decide +kernel
theorem dX7_item_6 : decode cX7_item 6 = .ok (.invokevirtual 212, 3) := by decide +kernel
theorem dX7_item_9 : decode cX7_item 9 = .ok (.lstore_n 2, 1) := by decide +kernel
theorem dX7_item_10 : decode cX7_item 10 = .ok (.iload_n 1, 1) := by decide +kernel
theorem dX7_item_11 : decode cX7_item 11 = .ok (.ifCond .lt 11, 3) := by decide +kernel
theorem dX7_item_14 : decode cX7_item 14 = .ok (.aload_n 0, 1) := by decide +kernel
theorem dX7_item_15 : decode cX7_item 15 = .ok (.iload_n 1, 1) := by decide +kernel
theorem dX7_item_16 : decode cX7_item 16 = .ok (.invokevirtual 254, 3) := by decide +kernel
theorem dX7_item_19 : decode cX7_item 19 = .ok (.goto 113, 3) := by decide +kernel
theorem dX7_item_22 : decode cX7_item 22 = .ok (.lload_n 2, 1) := by decide +kernel
theorem dX7_item_23 : decode cX7_item 23 = .ok (.ldc2_w 257, 3) := by decide +kernel
theorem dX7_item_26 : decode cX7_item 26 = .ok (.lcmp, 1) := by decide +kernel
theorem dX7_item_27 : decode cX7_item 27 = .ok (.ifCond .ne 10, 3) := by decide +kernel
theorem dX7_item_30 : decode cX7_item 30 = .ok (.aload_n 0, 1) := by decide +kernel
theorem dX7_item_31 : decode cX7_item 31 = .ok (.invokevirtual 259, 3) := by decide +kernel
theorem dX7_item_34 : decode cX7_item 34 = .ok (.goto 98, 3) := by decide +kernel
theorem dX7_item_37 : decode cX7_item 37 = .ok (.lload_n 2, 1) := by decide +kernel
theorem dX7_item_38 : decode cX7_item 38 = .ok (.ldc2_w 262, 3) := by decide +kernel
theorem dX7_item_41 : decode cX7_item 41 = .ok (.lcmp, 1) := by decide +kernel
theorem dX7_item_42 : decode cX7_item 42 = .ok (.ifCond .ne 7, 3) := by decide +kernel
theorem dX7_item_45 : decode cX7_item 45 = .ok (.iconst 1, 1) := by decide +kernel
theorem dX7_item_46 : decode cX7_item 46 = .ok (.goto 4, 3) := by decide +kernel
theorem dX7_item_49 : decode cX7_item 49 = .ok (.iconst 0, 1) := by decide +kernel
theorem dX7_item_50 : decode cX7_item 50 = .ok (.istore 4, 2) := by decide +kernel
theorem dX7_item_52 : decode cX7_item 52 = .ok (.aload_n 0, 1) := by decide +kernel
theorem dX7_item_53 : decode cX7_item 53 = .ok (.iload 4, 2) := by decide +kernel
theorem dX7_item_55 : decode cX7_item 55 = .ok (.ifCond .ne 11, 3) := by decide +kernel
theorem dX7_item_58 : decode cX7_item 58 = .ok (.lload_n 2, 1) := by decide +kernel
theorem dX7_item_59 : decode cX7_item 59 = .ok (.ldc2_w 264, 3) := by decide +kernel
theorem dX7_item_62 : decode cX7_item 62 = .ok (.lcmp, 1) := by decide +kernel
theorem dX7_item_63 : decode cX7_item 63 = .ok (.ifCond .ne 7, 3) := by decide +kernel
theorem dX7_item_66 : decode cX7_item 66 = .ok (.iconst 1, 1) := by decide +kernel
theorem dX7_item_67 : decode cX7_item 67 = .ok (.goto 4, 3) := by decide +kernel
theorem dX7_item_70 : decode cX7_item 70 = .ok (.iconst 0, 1) := by decide +kernel
theorem dX7_item_71 : decode cX7_item 71 = .ok (.invokevirtual 208, 3) := by decide +kernel
theorem dX7_item_74 : decode cX7_item 74 = .ok (.aload_n 0, 1) := by decide +kernel
theorem dX7_item_75 : decode cX7_item 75 = .ok (.iconst 0, 1) := by decide +kernel
theorem dX7_item_76 : decode cX7_item 76 = .ok (.iload 4, 2) := by decide +kernel
theorem dX7_item_78 : decode cX7_item 78 = .ok (.ifCond .eq 9, 3) := by decide +kernel
theorem dX7_item_81 : decode cX7_item 81 = .ok (.sipush 9999, 3) := by decide +kernel
theorem dX7_item_84 : decode cX7_item 84 = .ok (.goto 5, 3) := by decide +kernel
theorem dX7_item_87 : decode cX7_item 87 = .ok (.bipush 99, 2) := by decide +kernel
theorem dX7_item_89 : decode cX7_item 89 = .ok (.invokevirtual 230, 3) := by decide +kernel
theorem dX7_item_92 : decode cX7_item 92 = .ok (.iload 4, 2) := by decide +kernel
theorem dX7_item_94 : decode cX7_item 94 = .ok (.ifCond .eq 7, 3) := by decide +kernel
