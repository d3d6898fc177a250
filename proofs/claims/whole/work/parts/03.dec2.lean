theorem dX7_writeChecks_70 : decode cX7_writeChecks 70 = .ok (.istore 9, 2) := by decide +kernel
theorem dX7_writeChecks_72 : decode cX7_writeChecks 72 = .ok (.aload_n 0, 1) := by decide +kernel
theorem dX7_writeChecks_73 : decode cX7_writeChecks 73 = .ok (.iload 7, 2) := by decide +kernel
theorem dX7_writeChecks_75 : decode cX7_writeChecks 75 = .ok (.aload_n 1, 1) := by decide +kernel
theorem dX7_writeChecks_76 : decode cX7_writeChecks 76 = .ok (.iload_n 2, 1) := by decide +kernel
theorem dX7_writeChecks_77 : decode cX7_writeChecks 77 = .ok (.iload 4, 2) := by decide +kernel
theorem dX7_writeChecks_79 : decode cX7_writeChecks 79 = .ok (.invokevirtual 241, 3) := by decide +kernel
theorem dX7_writeChecks_82 : decode cX7_writeChecks 82 = .ok (.istore 10, 2) := by decide +kernel
theorem dX7_writeChecks_84 : decode cX7_writeChecks 84 = .ok (.iload 10, 2) := by decide +kernel
theorem dX7_writeChecks_86 : decode cX7_writeChecks 86 = .ok (.iconst (-1), 1) := by decide +kernel
theorem dX7_writeChecks_87 : decode cX7_writeChecks 87 = .ok (.if_icmp .eq 10, 3) := by decide +kernel
theorem dX7_writeChecks_90 : decode cX7_writeChecks 90 = .ok (.iload 10, 2) := by decide +kernel
theorem dX7_writeChecks_92 : decode cX7_writeChecks 92 = .ok (.iload 9, 2) := by decide +kernel
theorem dX7_writeChecks_94 : decode cX7_writeChecks 94 = .ok (.if_icmp .ne 7, 3) := by decide +kernel
theorem dX7_writeChecks_97 : decode cX7_writeChecks 97 = .ok (.iconst 1, 1) := by decide +kernel
theorem dX7_writeChecks_98 : decode cX7_writeChecks 98 = .ok (.goto 4, 3) := by decide +kernel
theorem dX7_writeChecks_101 : decode cX7_writeChecks 101 = .ok (.iconst 0, 1) := by decide +kernel
theorem dX7_writeChecks_102 : decode cX7_writeChecks 102 = .ok (.istore 11, 2) := by decide +kernel
theorem dX7_writeChecks_104 : decode cX7_writeChecks 104 = .ok (.aload_n 1, 1) := by decide +kernel
theorem dX7_writeChecks_105 : decode cX7_writeChecks 105 = .ok (.iload 6, 2) := by decide +kernel
theorem dX7_writeChecks_107 : decode cX7_writeChecks 107 = .ok (.iload 7, 2) := by decide +kernel
theorem dX7_writeChecks_109 : decode cX7_writeChecks 109 = .ok (.iload 8, 2) := by decide +kernel
theorem dX7_writeChecks_111 : decode cX7_writeChecks 111 = .ok (.iload 9, 2) := by decide +kernel
theorem dX7_writeChecks_113 : decode cX7_writeChecks 113 = .ok (.iload 11, 2) := by decide +kernel
theorem dX7_writeChecks_115 : decode cX7_writeChecks 115 = .ok (.invokevirtual 245, 3) := by decide +kernel
theorem dX7_writeChecks_118 : decode cX7_writeChecks 118 = .ok (.iload 4, 2) := by decide +kernel
theorem dX7_writeChecks_120 : decode cX7_writeChecks 120 = .ok (.ifCond .ne 9, 3) := by decide +kernel
theorem dX7_writeChecks_123 : decode cX7_writeChecks 123 = .ok (.iload 7, 2) := by decide +kernel
theorem dX7_writeChecks_125 : decode cX7_writeChecks 125 = .ok (.iconst 1, 1) := by decide +kernel
theorem dX7_writeChecks_126 : decode cX7_writeChecks 126 = .ok (.if_icmp .ne 7, 3) := by decide +kernel
theorem dX7_writeChecks_129 : decode cX7_writeChecks 129 = .ok (.iconst 1, 1) := by decide +kernel
theorem dX7_writeChecks_130 : decode cX7_writeChecks 130 = .ok (.goto 4, 3) := by decide +kernel
theorem dX7_writeChecks_133 : decode cX7_writeChecks 133 = .ok (.iconst 0, 1) := by decide +kernel
theorem dX7_writeChecks_134 : decode cX7_writeChecks 134 = .ok (.istore 4, 2) := by decide +kernel
theorem dX7_writeChecks_136 : decode cX7_writeChecks 136 = .ok (.iload 5, 2) := by decide +kernel
theorem dX7_writeChecks_138 : decode cX7_writeChecks 138 = .ok (.ifCond .eq 12, 3) := by decide +kernel
theorem dX7_writeChecks_141 : decode cX7_writeChecks 141 = .ok (.iload 11, 2) := by decide +kernel
theorem dX7_writeChecks_143 : decode cX7_writeChecks 143 = .ok (.ifCond .eq 7, 3) := by decide +kernel
theorem dX7_writeChecks_146 : decode cX7_writeChecks 146 = .ok (.iconst 1, 1) := by decide +kernel
theorem dX7_writeChecks_147 : decode cX7_writeChecks 147 = .ok (.goto 4, 3) := by decide +kernel
theorem dX7_writeChecks_150 : decode cX7_writeChecks 150 = .ok (.iconst 0, 1) := by decide +kernel
theorem dX7_writeChecks_151 : decode cX7_writeChecks 151 = .ok (.istore 5, 2) := by decide +kernel
theorem dX7_writeChecks_153 : decode cX7_writeChecks 153 = .ok (.iinc 6 1, 3) := by decide +kernel
theorem dX7_writeChecks_156 : decode cX7_writeChecks 156 = .ok (.goto (-132), 3) := by decide +kernel
theorem dX7_writeChecks_159 : decode cX7_writeChecks 159 = .ok (.iload 5, 2) := by decide +kernel
theorem dX7_writeChecks_161 : decode cX7_writeChecks 161 = .ok (.ireturn, 1) := by decide +kernel
set_option maxRecDepth 20000 in
theorem ggX7_checkNumber_X7_flagOf : GoodIn wsX7_checkNumber wsX7_flagOf := goodIn_r _ [4] (by decide +kernel) (by decide +kernel)
set_option maxRecDepth 20000 in
theorem gX7_checkNumber_X7_flagOf : GoodIn wsX7_checkNumber (va_wsS RX7 179 yX7_flagOf wsX7_flagOf) := goodIn_app (goodIn_of _ (by decide +kernel)) ggX7_checkNumber_X7_flagOf
theorem dX7_checkNumber_0 : decode cX7_checkNumber 0 = .ok (.iload_n 0, 1) := by decide +kernel
theorem dX7_checkNumber_1 : decode cX7_checkNumber 1 = .ok (.ifCond .ne 5, 3) := by decide +kernel
theorem dX7_checkNumber_4 : decode cX7_checkNumber 4 = .ok (.iload_n 1, 1) := by decide +kernel
theorem dX7_checkNumber_5 : decode cX7_checkNumber 5 = .ok (.ireturn, 1) := by decide +kernel
theorem dX7_checkNumber_6 : decode cX7_checkNumber 6 = .ok (.iload_n 0, 1) := by decide +kernel
theorem dX7_checkNumber_7 : decode cX7_checkNumber 7 = .ok (.iconst 1, 1) := by decide +kernel
theorem dX7_checkNumber_8 : decode cX7_checkNumber 8 = .ok (.if_icmp .ne 10, 3) := by decide +kernel
theorem dX7_checkNumber_11 : decode cX7_checkNumber 11 = .ok (.iload_n 1, 1) := by decide +kernel
theorem dX7_checkNumber_12 : decode cX7_checkNumber 12 = .ok (.invokestatic 179, 3) := by decide +kernel
theorem dX7_checkNumber_15 : decode cX7_checkNumber 15 = .ok (.goto 4, 3) := by decide +kernel
theorem dX7_checkNumber_18 : decode cX7_checkNumber 18 = .ok (.iconst 0, 1) := by decide +kernel
theorem dX7_checkNumber_19 : decode cX7_checkNumber 19 = .ok (.ireturn, 1) := by decide +kernel
set_option maxRecDepth 20000 in
theorem ggX7_dueAnswer_X7_flagOf : GoodIn wsX7_dueAnswer wsX7_flagOf := goodIn_r _ [6] (by decide +kernel) (by decide +kernel)
set_option maxRecDepth 20000 in
theorem gX7_dueAnswer_X7_flagOf : GoodIn wsX7_dueAnswer (va_wsS RX7 179 yX7_flagOf wsX7_flagOf) := goodIn_app (goodIn_of _ (by decide +kernel)) ggX7_dueAnswer_X7_flagOf
set_option maxRecDepth 20000 in
theorem ggX7_dueAnswer_X7_mix : GoodIn wsX7_dueAnswer wsX7_mix := goodIn_r _ [10, 1, 11, 12, 13, 14, 15, 16, 17, 18, 19, 20, 21, 22, 23, 24, 25, 26, 27, 28, 29, 30, 31, 32, 33, 34] (by decide +kernel) (by decide +kernel)
set_option maxRecDepth 20000 in
theorem gX7_dueAnswer_X7_mix : GoodIn wsX7_dueAnswer (wsV RX7 175 RX7 yX7_mix wsX7_mix) := goodIn_app (goodIn_of _ (by decide +kernel)) ggX7_dueAnswer_X7_mix
theorem dX7_dueAnswer_0 : decode cX7_dueAnswer 0 = .ok (.iload_n 1, 1) := by decide +kernel
theorem dX7_dueAnswer_1 : decode cX7_dueAnswer 1 = .ok (.ifCond .ne 21, 3) := by decide +kernel
theorem dX7_dueAnswer_4 : decode cX7_dueAnswer 4 = .ok (.iload_n 3, 1) := by decide +kernel
theorem dX7_dueAnswer_5 : decode cX7_dueAnswer 5 = .ok (.aload_n 0, 1) := by decide +kernel
theorem dX7_dueAnswer_6 : decode cX7_dueAnswer 6 = .ok (.getfield 7, 3) := by decide +kernel
theorem dX7_dueAnswer_9 : decode cX7_dueAnswer 9 = .ok (.iconst 4, 1) := by decide +kernel
theorem dX7_dueAnswer_10 : decode cX7_dueAnswer 10 = .ok (.aload_n 2, 1) := by decide +kernel
theorem dX7_dueAnswer_11 : decode cX7_dueAnswer 11 = .ok (.getfield 232, 3) := by decide +kernel
theorem dX7_dueAnswer_14 : decode cX7_dueAnswer 14 = .ok (.iadd, 1) := by decide +kernel
theorem dX7_dueAnswer_15 : decode cX7_dueAnswer 15 = .ok (.iaload, 1) := by decide +kernel
theorem dX7_dueAnswer_16 : decode cX7_dueAnswer 16 = .ok (.iadd, 1) := by decide +kernel
theorem dX7_dueAnswer_17 : decode cX7_dueAnswer 17 = .ok (.sipush 10000, 3) := by decide +kernel
theorem dX7_dueAnswer_20 : decode cX7_dueAnswer 20 = .ok (.irem, 1) := by decide +kernel
theorem dX7_dueAnswer_21 : decode cX7_dueAnswer 21 = .ok (.ireturn, 1) := by decide +kernel
theorem dX7_dueAnswer_22 : decode cX7_dueAnswer 22 = .ok (.iload_n 1, 1) := by decide +kernel
theorem dX7_dueAnswer_23 : decode cX7_dueAnswer 23 = .ok (.iconst 1, 1) := by decide +kernel
theorem dX7_dueAnswer_24 : decode cX7_dueAnswer 24 = .ok (.if_icmp .ne 5, 3) := by decide +kernel
theorem dX7_dueAnswer_27 : decode cX7_dueAnswer 27 = .ok (.iconst 0, 1) := by decide +kernel
theorem dX7_dueAnswer_28 : decode cX7_dueAnswer 28 = .ok (.ireturn, 1) := by decide +kernel
theorem dX7_dueAnswer_29 : decode cX7_dueAnswer 29 = .ok (.iload 4, 2) := by decide +kernel
theorem dX7_dueAnswer_31 : decode cX7_dueAnswer 31 = .ok (.ifCond .eq 8, 3) := by decide +kernel
theorem dX7_dueAnswer_34 : decode cX7_dueAnswer 34 = .ok (.iload_n 3, 1) := by decide +kernel
theorem dX7_dueAnswer_35 : decode cX7_dueAnswer 35 = .ok (.invokestatic 179, 3) := by decide +kernel
theorem dX7_dueAnswer_38 : decode cX7_dueAnswer 38 = .ok (.ireturn, 1) := by decide +kernel
theorem dX7_dueAnswer_39 : decode cX7_dueAnswer 39 = .ok (.aload_n 0, 1) := by decide +kernel
theorem dX7_dueAnswer_40 : decode cX7_dueAnswer 40 = .ok (.getfield 54, 3) := by decide +kernel
theorem dX7_dueAnswer_43 : decode cX7_dueAnswer 43 = .ok (.ifCond .ne 7, 3) := by decide +kernel
theorem dX7_dueAnswer_46 : decode cX7_dueAnswer 46 = .ok (.iconst (-1), 1) := by decide +kernel
theorem dX7_dueAnswer_47 : decode cX7_dueAnswer 47 = .ok (.goto 17, 3) := by decide +kernel
theorem dX7_dueAnswer_50 : decode cX7_dueAnswer 50 = .ok (.aload_n 0, 1) := by decide +kernel
theorem dX7_dueAnswer_51 : decode cX7_dueAnswer 51 = .ok (.aload_n 0, 1) := by decide +kernel
theorem dX7_dueAnswer_52 : decode cX7_dueAnswer 52 = .ok (.getfield 54, 3) := by decide +kernel
theorem dX7_dueAnswer_55 : decode cX7_dueAnswer 55 = .ok (.iconst 1, 1) := by decide +kernel
theorem dX7_dueAnswer_56 : decode cX7_dueAnswer 56 = .ok (.isub, 1) := by decide +kernel
theorem dX7_dueAnswer_57 : decode cX7_dueAnswer 57 = .ok (.aload_n 2, 1) := by decide +kernel
theorem dX7_dueAnswer_58 : decode cX7_dueAnswer 58 = .ok (.invokevirtual 175, 3) := by decide +kernel
theorem dX7_dueAnswer_61 : decode cX7_dueAnswer 61 = .ok (.invokestatic 179, 3) := by decide +kernel
theorem dX7_dueAnswer_64 : decode cX7_dueAnswer 64 = .ok (.ireturn, 1) := by decide +kernel
set_option maxRecDepth 20000 in
theorem ggX7_roundThatCounts_X7_mix : GoodIn wsX7_roundThatCounts wsX7_mix := goodIn_r _ [11, 2, 20, 21, 22, 23, 24, 25, 26, 27, 28, 29, 30, 31, 32, 33, 34, 35, 36, 37, 38, 39, 40, 41, 42, 43] (by decide +kernel) (by decide +kernel)
set_option maxRecDepth 20000 in
theorem gX7_roundThatCounts_X7_mix : GoodIn wsX7_roundThatCounts (wsV RX7 175 RX7 yX7_mix wsX7_mix) := goodIn_app (goodIn_of _ (by decide +kernel)) ggX7_roundThatCounts_X7_mix
set_option maxRecDepth 20000 in
theorem ggX7_roundThatCounts_X7_flagOf : GoodIn wsX7_roundThatCounts wsX7_flagOf := goodIn_r _ [14] (by decide +kernel) (by decide +kernel)
set_option maxRecDepth 20000 in
theorem gX7_roundThatCounts_X7_flagOf : GoodIn wsX7_roundThatCounts (va_wsS RX7 179 yX7_flagOf wsX7_flagOf) := goodIn_app (goodIn_of _ (by decide +kernel)) ggX7_roundThatCounts_X7_flagOf
set_option maxRecDepth 20000 in
theorem ggX7_roundThatCounts_X5_isTaken : GoodIn wsX7_roundThatCounts wsX5_isTaken := goodIn_r _ [18, 19, 30, 31, 32, 33, 34, 35, 36, 37, 38, 39, 40, 41, 42, 43] (by decide +kernel) (by decide +kernel)
set_option maxRecDepth 20000 in
theorem gX7_roundThatCounts_X5_isTaken_n254 : GoodIn wsX7_roundThatCounts (wsX5_isTaken) := ggX7_roundThatCounts_X5_isTaken
theorem dX7_roundThatCounts_0 : decode cX7_roundThatCounts 0 = .ok (.iconst 0, 1) := by decide +kernel
theorem dX7_roundThatCounts_1 : decode cX7_roundThatCounts 1 = .ok (.aload_n 0, 1) := by decide +kernel
theorem dX7_roundThatCounts_2 : decode cX7_roundThatCounts 2 = .ok (.getfield 54, 3) := by decide +kernel
theorem dX7_roundThatCounts_5 : decode cX7_roundThatCounts 5 = .ok (.aload_n 0, 1) := by decide +kernel
theorem dX7_roundThatCounts_6 : decode cX7_roundThatCounts 6 = .ok (.getfield 7, 3) := by decide +kernel
theorem dX7_roundThatCounts_9 : decode cX7_roundThatCounts 9 = .ok (.iconst 2, 1) := by decide +kernel
theorem dX7_roundThatCounts_10 : decode cX7_roundThatCounts 10 = .ok (.iaload, 1) := by decide +kernel
theorem dX7_roundThatCounts_11 : decode cX7_roundThatCounts 11 = .ok (.isub, 1) := by decide +kernel
theorem dX7_roundThatCounts_12 : decode cX7_roundThatCounts 12 = .ok (.invokestatic 249, 3) := by decide +kernel
theorem dX7_roundThatCounts_15 : decode cX7_roundThatCounts 15 = .ok (.istore 4, 2) := by decide +kernel
theorem dX7_roundThatCounts_17 : decode cX7_roundThatCounts 17 = .ok (.aload_n 0, 1) := by decide +kernel
theorem dX7_roundThatCounts_18 : decode cX7_roundThatCounts 18 = .ok (.getfield 54, 3) := by decide +kernel
theorem dX7_roundThatCounts_21 : decode cX7_roundThatCounts 21 = .ok (.iconst 1, 1) := by decide +kernel
theorem dX7_roundThatCounts_22 : decode cX7_roundThatCounts 22 = .ok (.isub, 1) := by decide +kernel
theorem dX7_roundThatCounts_23 : decode cX7_roundThatCounts 23 = .ok (.istore 5, 2) := by decide +kernel
theorem dX7_roundThatCounts_25 : decode cX7_roundThatCounts 25 = .ok (.iload 5, 2) := by decide +kernel
theorem dX7_roundThatCounts_27 : decode cX7_roundThatCounts 27 = .ok (.iload 4, 2) := by decide +kernel
theorem dX7_roundThatCounts_29 : decode cX7_roundThatCounts 29 = .ok (.if_icmp .lt 38, 3) := by decide +kernel
theorem dX7_roundThatCounts_32 : decode cX7_roundThatCounts 32 = .ok (.aload_n 0, 1) := by decide +kernel
theorem dX7_roundThatCounts_33 : decode cX7_roundThatCounts 33 = .ok (.iload 5, 2) := by decide +kernel
theorem dX7_roundThatCounts_35 : decode cX7_roundThatCounts 35 = .ok (.aload_n 2, 1) := by decide +kernel
theorem dX7_roundThatCounts_36 : decode cX7_roundThatCounts 36 = .ok (.invokevirtual 175, 3) := by decide +kernel
theorem dX7_roundThatCounts_39 : decode cX7_roundThatCounts 39 = .ok (.invokestatic 179, 3) := by decide +kernel
theorem dX7_roundThatCounts_42 : decode cX7_roundThatCounts 42 = .ok (.iload_n 3, 1) := by decide +kernel
theorem dX7_roundThatCounts_43 : decode cX7_roundThatCounts 43 = .ok (.if_icmp .ne 18, 3) := by decide +kernel
theorem dX7_roundThatCounts_46 : decode cX7_roundThatCounts 46 = .ok (.aload_n 2, 1) := by decide +kernel
theorem dX7_roundThatCounts_47 : decode cX7_roundThatCounts 47 = .ok (.iload_n 1, 1) := by decide +kernel
theorem dX7_roundThatCounts_48 : decode cX7_roundThatCounts 48 = .ok (.iload 5, 2) := by decide +kernel
theorem dX7_roundThatCounts_50 : decode cX7_roundThatCounts 50 = .ok (.bipush 100, 2) := by decide +kernel
theorem dX7_roundThatCounts_52 : decode cX7_roundThatCounts 52 = .ok (.invokevirtual 254, 3) := by decide +kernel
theorem dX7_roundThatCounts_55 : decode cX7_roundThatCounts 55 = .ok (.ifCond .ne 6, 3) := by decide +kernel
theorem dX7_roundThatCounts_58 : decode cX7_roundThatCounts 58 = .ok (.iload 5, 2) := by decide +kernel
theorem dX7_roundThatCounts_60 : decode cX7_roundThatCounts 60 = .ok (.ireturn, 1) := by decide +kernel
theorem dX7_roundThatCounts_61 : decode cX7_roundThatCounts 61 = .ok (.iinc 5 (-1), 3) := by decide +kernel
theorem dX7_roundThatCounts_64 : decode cX7_roundThatCounts 64 = .ok (.goto (-39), 3) := by decide +kernel
theorem dX7_roundThatCounts_67 : decode cX7_roundThatCounts 67 = .ok (.iconst (-1), 1) := by decide +kernel
theorem dX7_roundThatCounts_68 : decode cX7_roundThatCounts 68 = .ok (.ireturn, 1) := by decide +kernel
set_option maxRecDepth 20000 in
theorem ggX7_pointsAhead_X7_upPoints : GoodIn wsX7_pointsAhead wsX7_upPoints := goodIn_r _ [5, 6, 7, 8, 9, 10, 11, 12, 13, 14, 15, 16, 17, 18, 19, 20, 21, 22, 23, 24, 25, 26, 27, 28, 29, 30, 31, 32, 33, 34, 35, 58, 59, 60, 61, 62, 63, 64, 65, 66, 67, 68, 69, 70, 71, 72, 73, 74, 75, 76, 77, 78, 79, 80, 81, 82, 83, 84] (by decide +kernel) (by decide +kernel)
set_option maxRecDepth 20000 in
theorem gX7_pointsAhead_X7_upPoints : GoodIn wsX7_pointsAhead (wsV RX7 201 RX7 yX7_upPoints wsX7_upPoints) := goodIn_app (goodIn_of _ (by decide +kernel)) ggX7_pointsAhead_X7_upPoints
set_option maxRecDepth 20000 in
theorem ggX7_pointsAhead_X7_stolenPoints : GoodIn wsX7_pointsAhead wsX7_stolenPoints := goodIn_r _ [39, 40, 41, 13, 14, 15, 16, 17, 18, 19, 20, 21, 22, 23, 24, 25, 26, 27, 28, 29, 30, 31, 32, 33, 34, 35, 42, 43, 44, 45, 46, 47, 48, 49, 50, 51, 52, 4, 53, 58, 59, 60, 61, 62, 63, 64, 65, 66, 67, 85, 86, 87, 82, 83, 84, 68, 69, 70, 71, 72, 73, 74, 75, 76, 77, 78, 79, 80, 81] (by decide +kernel) (by decide +kernel)
set_option maxRecDepth 20000 in
theorem gX7_pointsAhead_X7_stolenPoints : GoodIn wsX7_pointsAhead (wsV RX7 204 RX7 yX7_stolenPoints wsX7_stolenPoints) := goodIn_app (goodIn_of _ (by decide +kernel)) ggX7_pointsAhead_X7_stolenPoints
set_option maxRecDepth 20000 in
theorem ggX7_pointsAhead_X7_takenOff : GoodIn wsX7_pointsAhead wsX7_takenOff := goodIn_r _ [57, 40, 41, 13, 14, 15, 16, 17, 18, 19, 20, 21, 22, 23, 24, 25, 26, 27, 28, 29, 30, 31, 32, 33, 34, 35, 42, 43, 44, 45, 46, 58, 59, 60, 61, 62, 63, 64, 65, 66, 67, 85, 86, 87, 68, 69, 70, 71, 72, 73, 74, 75, 76, 77, 78, 79, 80, 81, 82, 83, 84] (by decide +kernel) (by decide +kernel)
set_option maxRecDepth 20000 in
theorem gX7_pointsAhead_X7_takenOff : GoodIn wsX7_pointsAhead (wsV RX7 207 RX7 yX7_takenOff wsX7_takenOff) := goodIn_app (goodIn_of _ (by decide +kernel)) ggX7_pointsAhead_X7_takenOff
theorem dX7_pointsAhead_0 : decode cX7_pointsAhead 0 = .ok (.aload_n 0, 1) := by decide +kernel
theorem dX7_pointsAhead_1 : decode cX7_pointsAhead 1 = .ok (.iload_n 1, 1) := by decide +kernel
theorem dX7_pointsAhead_2 : decode cX7_pointsAhead 2 = .ok (.iload_n 2, 1) := by decide +kernel
theorem dX7_pointsAhead_3 : decode cX7_pointsAhead 3 = .ok (.invokevirtual 201, 3) := by decide +kernel
theorem dX7_pointsAhead_6 : decode cX7_pointsAhead 6 = .ok (.aload_n 0, 1) := by decide +kernel
theorem dX7_pointsAhead_7 : decode cX7_pointsAhead 7 = .ok (.iload_n 1, 1) := by decide +kernel
theorem dX7_pointsAhead_8 : decode cX7_pointsAhead 8 = .ok (.iload_n 2, 1) := by decide +kernel
theorem dX7_pointsAhead_9 : decode cX7_pointsAhead 9 = .ok (.invokevirtual 204, 3) := by decide +kernel
theorem dX7_pointsAhead_12 : decode cX7_pointsAhead 12 = .ok (.iadd, 1) := by decide +kernel
theorem dX7_pointsAhead_13 : decode cX7_pointsAhead 13 = .ok (.aload_n 0, 1) := by decide +kernel
theorem dX7_pointsAhead_14 : decode cX7_pointsAhead 14 = .ok (.iload_n 1, 1) := by decide +kernel
theorem dX7_pointsAhead_15 : decode cX7_pointsAhead 15 = .ok (.iload_n 2, 1) := by decide +kernel
theorem dX7_pointsAhead_16 : decode cX7_pointsAhead 16 = .ok (.invokevirtual 207, 3) := by decide +kernel
theorem dX7_pointsAhead_19 : decode cX7_pointsAhead 19 = .ok (.isub, 1) := by decide +kernel
theorem dX7_pointsAhead_20 : decode cX7_pointsAhead 20 = .ok (.ireturn, 1) := by decide +kernel
set_option maxRecDepth 20000 in
theorem ggX7_upPoints_Jx4a65c_size_8abf5 : GoodIn wsX7_upPoints wsJx4a65c_size_8abf5 := goodIn_r _ [12, 13, 55, 56, 57] (by decide +kernel) (by decide +kernel)
set_option maxRecDepth 20000 in
theorem gX7_upPoints_Jx4a65c_size_8abf5 : GoodIn wsX7_upPoints (wsV RX7 140 RJx4a65c yJx4a65c_size_8abf5 wsJx4a65c_size_8abf5) := goodIn_app (goodIn_of _ (by decide +kernel)) ggX7_upPoints_Jx4a65c_size_8abf5
set_option maxRecDepth 20000 in
theorem ggX7_upPoints_Jx4a65c_get_915e3 : GoodIn wsX7_upPoints wsJx4a65c_get_915e3 := goodIn_r _ [17, 13, 18, 19, 20, 21, 22, 23, 24, 25, 26, 27, 28, 11, 29, 30, 55, 56, 57] (by decide +kernel) (by decide +kernel)
set_option maxRecDepth 20000 in
theorem gX7_upPoints_Jx4a65c_get_915e3 : GoodIn wsX7_upPoints (wsV RX7 142 RJx4a65c yJx4a65c_get_915e3 wsJx4a65c_get_915e3) := goodIn_app (goodIn_of _ (by decide +kernel)) ggX7_upPoints_Jx4a65c_get_915e3
theorem dX7_upPoints_0 : decode cX7_upPoints 0 = .ok (.aload_n 0, 1) := by decide +kernel
theorem dX7_upPoints_1 : decode cX7_upPoints 1 = .ok (.getfield 54, 3) := by decide +kernel
theorem dX7_upPoints_4 : decode cX7_upPoints 4 = .ok (.iload_n 2, 1) := by decide +kernel
theorem dX7_upPoints_5 : decode cX7_upPoints 5 = .ok (.invokestatic 258, 3) := by decide +kernel
theorem dX7_upPoints_8 : decode cX7_upPoints 8 = .ok (.istore_n 3, 1) := by decide +kernel
theorem dX7_upPoints_9 : decode cX7_upPoints 9 = .ok (.iconst 0, 1) := by decide +kernel
theorem dX7_upPoints_10 : decode cX7_upPoints 10 = .ok (.istore 4, 2) := by decide +kernel
theorem dX7_upPoints_12 : decode cX7_upPoints 12 = .ok (.iconst 0, 1) := by decide +kernel
theorem dX7_upPoints_13 : decode cX7_upPoints 13 = .ok (.istore 5, 2) := by decide +kernel
theorem dX7_upPoints_15 : decode cX7_upPoints 15 = .ok (.iload 5, 2) := by decide +kernel
theorem dX7_upPoints_17 : decode cX7_upPoints 17 = .ok (.aload_n 0, 1) := by decide +kernel
theorem dX7_upPoints_18 : decode cX7_upPoints 18 = .ok (.getfield 16, 3) := by decide +kernel
theorem dX7_upPoints_21 : decode cX7_upPoints 21 = .ok (.invokevirtual 140, 3) := by decide +kernel
theorem dX7_upPoints_24 : decode cX7_upPoints 24 = .ok (.if_icmp .ge 47, 3) := by decide +kernel
theorem dX7_upPoints_27 : decode cX7_upPoints 27 = .ok (.aload_n 0, 1) := by decide +kernel
theorem dX7_upPoints_28 : decode cX7_upPoints 28 = .ok (.getfield 16, 3) := by decide +kernel
theorem dX7_upPoints_31 : decode cX7_upPoints 31 = .ok (.iload 5, 2) := by decide +kernel
theorem dX7_upPoints_33 : decode cX7_upPoints 33 = .ok (.invokevirtual 142, 3) := by decide +kernel
theorem dX7_upPoints_36 : decode cX7_upPoints 36 = .ok (.checkcast 62, 3) := by decide +kernel
theorem dX7_upPoints_39 : decode cX7_upPoints 39 = .ok (.astore 6, 2) := by decide +kernel
theorem dX7_upPoints_41 : decode cX7_upPoints 41 = .ok (.aload 6, 2) := by decide +kernel
theorem dX7_upPoints_43 : decode cX7_upPoints 43 = .ok (.getfield 222, 3) := by decide +kernel
theorem dX7_upPoints_46 : decode cX7_upPoints 46 = .ok (.iload_n 1, 1) := by decide +kernel
theorem dX7_upPoints_47 : decode cX7_upPoints 47 = .ok (.if_icmp .ne 18, 3) := by decide +kernel
theorem dX7_upPoints_50 : decode cX7_upPoints 50 = .ok (.iload 4, 2) := by decide +kernel
theorem dX7_upPoints_52 : decode cX7_upPoints 52 = .ok (.bipush 10, 2) := by decide +kernel
theorem dX7_upPoints_54 : decode cX7_upPoints 54 = .ok (.aload 6, 2) := by decide +kernel
theorem dX7_upPoints_56 : decode cX7_upPoints 56 = .ok (.getfield 102, 3) := by decide +kernel
theorem dX7_upPoints_59 : decode cX7_upPoints 59 = .ok (.iload_n 3, 1) := by decide +kernel
theorem dX7_upPoints_60 : decode cX7_upPoints 60 = .ok (.iaload, 1) := by decide +kernel
theorem dX7_upPoints_61 : decode cX7_upPoints 61 = .ok (.imul, 1) := by decide +kernel
theorem dX7_upPoints_62 : decode cX7_upPoints 62 = .ok (.iadd, 1) := by decide +kernel
theorem dX7_upPoints_63 : decode cX7_upPoints 63 = .ok (.istore 4, 2) := by decide +kernel
theorem dX7_upPoints_65 : decode cX7_upPoints 65 = .ok (.iinc 5 1, 3) := by decide +kernel
theorem dX7_upPoints_68 : decode cX7_upPoints 68 = .ok (.goto (-53), 3) := by decide +kernel
theorem dX7_upPoints_71 : decode cX7_upPoints 71 = .ok (.iload 4, 2) := by decide +kernel
theorem dX7_upPoints_73 : decode cX7_upPoints 73 = .ok (.ireturn, 1) := by decide +kernel
set_option maxRecDepth 20000 in
theorem ggX7_stolenPoints_Jx4a65c_size_8abf5 : GoodIn wsX7_stolenPoints wsJx4a65c_size_8abf5 := goodIn_r _ [7, 8, 52, 53, 54] (by decide +kernel) (by decide +kernel)
set_option maxRecDepth 20000 in
theorem gX7_stolenPoints_Jx4a65c_size_8abf5 : GoodIn wsX7_stolenPoints (wsV RX7 140 RJx4a65c yJx4a65c_size_8abf5 wsJx4a65c_size_8abf5) := goodIn_app (goodIn_of _ (by decide +kernel)) ggX7_stolenPoints_Jx4a65c_size_8abf5
set_option maxRecDepth 20000 in
theorem ggX7_stolenPoints_Jx4a65c_get_915e3 : GoodIn wsX7_stolenPoints wsJx4a65c_get_915e3 := goodIn_r _ [12, 8, 13, 14, 15, 16, 17, 18, 19, 20, 21, 22, 23, 6, 24, 25, 52, 53, 54] (by decide +kernel) (by decide +kernel)
set_option maxRecDepth 20000 in
theorem gX7_stolenPoints_Jx4a65c_get_915e3 : GoodIn wsX7_stolenPoints (wsV RX7 142 RJx4a65c yJx4a65c_get_915e3 wsJx4a65c_get_915e3) := goodIn_app (goodIn_of _ (by decide +kernel)) ggX7_stolenPoints_Jx4a65c_get_915e3
set_option maxRecDepth 20000 in
theorem ggX7_stolenPoints_X5_isTaken : GoodIn wsX7_stolenPoints wsX5_isTaken := goodIn_r _ [29, 30, 55, 56, 57, 58, 59, 60, 61, 62, 63, 64, 65, 66, 67, 68] (by decide +kernel) (by decide +kernel)
set_option maxRecDepth 20000 in
theorem gX7_stolenPoints_X5_isTaken_n254 : GoodIn wsX7_stolenPoints (wsX5_isTaken) := ggX7_stolenPoints_X5_isTaken
set_option maxRecDepth 20000 in
theorem ggX7_stolenPoints_X5_takers : GoodIn wsX7_stolenPoints wsX5_takers := goodIn_r _ [33, 34, 26, 28, 27, 29, 30, 55, 56, 57, 58, 59, 60, 61, 62, 63, 64, 65, 66, 67, 68] (by decide +kernel) (by decide +kernel)
set_option maxRecDepth 20000 in
theorem gX7_stolenPoints_X5_takers_n271 : GoodIn wsX7_stolenPoints (wsX5_takers) := ggX7_stolenPoints_X5_takers
set_option maxRecDepth 20000 in
theorem ggX7_stolenPoints_X7_share : GoodIn wsX7_stolenPoints wsX7_share := goodIn_r _ [38] (by decide +kernel) (by decide +kernel)
set_option maxRecDepth 20000 in
theorem gX7_stolenPoints_X7_share : GoodIn wsX7_stolenPoints (va_wsS RX7 274 yX7_share wsX7_share) := goodIn_app (goodIn_of _ (by decide +kernel)) ggX7_stolenPoints_X7_share
theorem dX7_stolenPoints_0 : decode cX7_stolenPoints 0 = .ok (.iconst 0, 1) := by decide +kernel
theorem dX7_stolenPoints_1 : decode cX7_stolenPoints 1 = .ok (.istore_n 3, 1) := by decide +kernel
theorem dX7_stolenPoints_2 : decode cX7_stolenPoints 2 = .ok (.iconst 0, 1) := by decide +kernel
theorem dX7_stolenPoints_3 : decode cX7_stolenPoints 3 = .ok (.istore 4, 2) := by decide +kernel
theorem dX7_stolenPoints_5 : decode cX7_stolenPoints 5 = .ok (.iload 4, 2) := by decide +kernel
theorem dX7_stolenPoints_7 : decode cX7_stolenPoints 7 = .ok (.aload_n 0, 1) := by decide +kernel
theorem dX7_stolenPoints_8 : decode cX7_stolenPoints 8 = .ok (.getfield 20, 3) := by decide +kernel
theorem dX7_stolenPoints_11 : decode cX7_stolenPoints 11 = .ok (.invokevirtual 140, 3) := by decide +kernel
theorem dX7_stolenPoints_14 : decode cX7_stolenPoints 14 = .ok (.if_icmp .ge 70, 3) := by decide +kernel
theorem dX7_stolenPoints_17 : decode cX7_stolenPoints 17 = .ok (.aload_n 0, 1) := by decide +kernel
theorem dX7_stolenPoints_18 : decode cX7_stolenPoints 18 = .ok (.getfield 20, 3) := by decide +kernel
theorem dX7_stolenPoints_21 : decode cX7_stolenPoints 21 = .ok (.iload 4, 2) := by decide +kernel
theorem dX7_stolenPoints_23 : decode cX7_stolenPoints 23 = .ok (.invokevirtual 142, 3) := by decide +kernel
theorem dX7_stolenPoints_26 : decode cX7_stolenPoints 26 = .ok (.checkcast 191, 3) := by decide +kernel
theorem dX7_stolenPoints_29 : decode cX7_stolenPoints 29 = .ok (.astore 5, 2) := by decide +kernel
theorem dX7_stolenPoints_31 : decode cX7_stolenPoints 31 = .ok (.aload 5, 2) := by decide +kernel
theorem dX7_stolenPoints_33 : decode cX7_stolenPoints 33 = .ok (.getfield 261, 3) := by decide +kernel
theorem dX7_stolenPoints_36 : decode cX7_stolenPoints 36 = .ok (.iload_n 1, 1) := by decide +kernel
theorem dX7_stolenPoints_37 : decode cX7_stolenPoints 37 = .ok (.if_icmp .ne 41, 3) := by decide +kernel
theorem dX7_stolenPoints_40 : decode cX7_stolenPoints 40 = .ok (.aload 5, 2) := by decide +kernel
theorem dX7_stolenPoints_42 : decode cX7_stolenPoints 42 = .ok (.getfield 264, 3) := by decide +kernel
theorem dX7_stolenPoints_45 : decode cX7_stolenPoints 45 = .ok (.iload_n 1, 1) := by decide +kernel
theorem dX7_stolenPoints_46 : decode cX7_stolenPoints 46 = .ok (.aload 5, 2) := by decide +kernel
theorem dX7_stolenPoints_48 : decode cX7_stolenPoints 48 = .ok (.getfield 268, 3) := by decide +kernel
theorem dX7_stolenPoints_51 : decode cX7_stolenPoints 51 = .ok (.iload_n 2, 1) := by decide +kernel
theorem dX7_stolenPoints_52 : decode cX7_stolenPoints 52 = .ok (.invokevirtual 254, 3) := by decide +kernel
theorem dX7_stolenPoints_55 : decode cX7_stolenPoints 55 = .ok (.ifCond .eq 23, 3) := by decide +kernel
theorem dX7_stolenPoints_58 : decode cX7_stolenPoints 58 = .ok (.iload_n 3, 1) := by decide +kernel
theorem dX7_stolenPoints_59 : decode cX7_stolenPoints 59 = .ok (.aload 5, 2) := by decide +kernel
theorem dX7_stolenPoints_61 : decode cX7_stolenPoints 61 = .ok (.getfield 264, 3) := by decide +kernel
theorem dX7_stolenPoints_64 : decode cX7_stolenPoints 64 = .ok (.aload 5, 2) := by decide +kernel
theorem dX7_stolenPoints_66 : decode cX7_stolenPoints 66 = .ok (.getfield 268, 3) := by decide +kernel
theorem dX7_stolenPoints_69 : decode cX7_stolenPoints 69 = .ok (.iload_n 2, 1) := by decide +kernel
theorem dX7_stolenPoints_70 : decode cX7_stolenPoints 70 = .ok (.invokevirtual 271, 3) := by decide +kernel
theorem dX7_stolenPoints_73 : decode cX7_stolenPoints 73 = .ok (.invokestatic 274, 3) := by decide +kernel
theorem dX7_stolenPoints_76 : decode cX7_stolenPoints 76 = .ok (.iadd, 1) := by decide +kernel
theorem dX7_stolenPoints_77 : decode cX7_stolenPoints 77 = .ok (.istore_n 3, 1) := by decide +kernel
theorem dX7_stolenPoints_78 : decode cX7_stolenPoints 78 = .ok (.iinc 4 1, 3) := by decide +kernel
theorem dX7_stolenPoints_81 : decode cX7_stolenPoints 81 = .ok (.goto (-76), 3) := by decide +kernel
theorem dX7_stolenPoints_84 : decode cX7_stolenPoints 84 = .ok (.iload_n 3, 1) := by decide +kernel
theorem dX7_stolenPoints_85 : decode cX7_stolenPoints 85 = .ok (.ireturn, 1) := by decide +kernel
set_option maxRecDepth 20000 in
theorem ggX7_takenOff_Jx4a65c_size_8abf5 : GoodIn wsX7_takenOff wsJx4a65c_size_8abf5 := goodIn_r _ [7, 8, 58, 59, 60] (by decide +kernel) (by decide +kernel)
set_option maxRecDepth 20000 in
theorem gX7_takenOff_Jx4a65c_size_8abf5 : GoodIn wsX7_takenOff (wsV RX7 140 RJx4a65c yJx4a65c_size_8abf5 wsJx4a65c_size_8abf5) := goodIn_app (goodIn_of _ (by decide +kernel)) ggX7_takenOff_Jx4a65c_size_8abf5
set_option maxRecDepth 20000 in
theorem ggX7_takenOff_Jx4a65c_get_915e3 : GoodIn wsX7_takenOff wsJx4a65c_get_915e3 := goodIn_r _ [12, 8, 13, 14, 15, 16, 17, 18, 19, 20, 21, 22, 23, 6, 24, 25, 58, 59, 60] (by decide +kernel) (by decide +kernel)
set_option maxRecDepth 20000 in
theorem gX7_takenOff_Jx4a65c_get_915e3 : GoodIn wsX7_takenOff (wsV RX7 142 RJx4a65c yJx4a65c_get_915e3 wsJx4a65c_get_915e3) := goodIn_app (goodIn_of _ (by decide +kernel)) ggX7_takenOff_Jx4a65c_get_915e3
set_option maxRecDepth 20000 in
theorem ggX7_takenOff_X5_isTaken : GoodIn wsX7_takenOff wsX5_isTaken := goodIn_r _ [29, 30, 44, 45, 46, 47, 48, 49, 50, 51, 52, 53, 54, 55, 56, 57] (by decide +kernel) (by decide +kernel)
set_option maxRecDepth 20000 in
theorem gX7_takenOff_X5_isTaken_n254 : GoodIn wsX7_takenOff (wsX5_isTaken) := ggX7_takenOff_X5_isTaken
theorem dX7_takenOff_0 : decode cX7_takenOff 0 = .ok (.iconst 0, 1) := by decide +kernel
theorem dX7_takenOff_1 : decode cX7_takenOff 1 = .ok (.istore_n 3, 1) := by decide +kernel
theorem dX7_takenOff_2 : decode cX7_takenOff 2 = .ok (.iconst 0, 1) := by decide +kernel
theorem dX7_takenOff_3 : decode cX7_takenOff 3 = .ok (.istore 4, 2) := by decide +kernel
theorem dX7_takenOff_5 : decode cX7_takenOff 5 = .ok (.iload 4, 2) := by decide +kernel
theorem dX7_takenOff_7 : decode cX7_takenOff 7 = .ok (.aload_n 0, 1) := by decide +kernel
theorem dX7_takenOff_8 : decode cX7_takenOff 8 = .ok (.getfield 20, 3) := by decide +kernel
theorem dX7_takenOff_11 : decode cX7_takenOff 11 = .ok (.invokevirtual 140, 3) := by decide +kernel
theorem dX7_takenOff_14 : decode cX7_takenOff 14 = .ok (.if_icmp .ge 60, 3) := by decide +kernel
theorem dX7_takenOff_17 : decode cX7_takenOff 17 = .ok (.aload_n 0, 1) := by decide +kernel
theorem dX7_takenOff_18 : decode cX7_takenOff 18 = .ok (.getfield 20, 3) := by decide +kernel
theorem dX7_takenOff_21 : decode cX7_takenOff 21 = .ok (.iload 4, 2) := by decide +kernel
theorem dX7_takenOff_23 : decode cX7_takenOff 23 = .ok (.invokevirtual 142, 3) := by decide +kernel
theorem dX7_takenOff_26 : decode cX7_takenOff 26 = .ok (.checkcast 191, 3) := by decide +kernel
theorem dX7_takenOff_29 : decode cX7_takenOff 29 = .ok (.astore 5, 2) := by decide +kernel
theorem dX7_takenOff_31 : decode cX7_takenOff 31 = .ok (.aload 5, 2) := by decide +kernel
theorem dX7_takenOff_33 : decode cX7_takenOff 33 = .ok (.getfield 264, 3) := by decide +kernel
theorem dX7_takenOff_36 : decode cX7_takenOff 36 = .ok (.getfield 222, 3) := by decide +kernel
theorem dX7_takenOff_39 : decode cX7_takenOff 39 = .ok (.iload_n 1, 1) := by decide +kernel
theorem dX7_takenOff_40 : decode cX7_takenOff 40 = .ok (.if_icmp .ne 28, 3) := by decide +kernel
theorem dX7_takenOff_43 : decode cX7_takenOff 43 = .ok (.aload 5, 2) := by decide +kernel
theorem dX7_takenOff_45 : decode cX7_takenOff 45 = .ok (.getfield 264, 3) := by decide +kernel
theorem dX7_takenOff_48 : decode cX7_takenOff 48 = .ok (.aload 5, 2) := by decide +kernel
theorem dX7_takenOff_50 : decode cX7_takenOff 50 = .ok (.getfield 261, 3) := by decide +kernel
theorem dX7_takenOff_53 : decode cX7_takenOff 53 = .ok (.aload 5, 2) := by decide +kernel
theorem dX7_takenOff_55 : decode cX7_takenOff 55 = .ok (.getfield 268, 3) := by decide +kernel
theorem dX7_takenOff_58 : decode cX7_takenOff 58 = .ok (.iload_n 2, 1) := by decide +kernel
theorem dX7_takenOff_59 : decode cX7_takenOff 59 = .ok (.invokevirtual 254, 3) := by decide +kernel
theorem dX7_takenOff_62 : decode cX7_takenOff 62 = .ok (.ifCond .eq 6, 3) := by decide +kernel
theorem dX7_takenOff_65 : decode cX7_takenOff 65 = .ok (.iinc 3 4, 3) := by decide +kernel
theorem dX7_takenOff_68 : decode cX7_takenOff 68 = .ok (.iinc 4 1, 3) := by decide +kernel
theorem dX7_takenOff_71 : decode cX7_takenOff 71 = .ok (.goto (-66), 3) := by decide +kernel
theorem dX7_takenOff_74 : decode cX7_takenOff 74 = .ok (.iload_n 3, 1) := by decide +kernel
theorem dX7_takenOff_75 : decode cX7_takenOff 75 = .ok (.ireturn, 1) := by decide +kernel
set_option maxRecDepth 20000 in
theorem ggX7_handInsBy_Jx4a65c_size_8abf5 : GoodIn wsX7_handInsBy wsJx4a65c_size_8abf5 := goodIn_r _ [7, 8, 39, 40, 41] (by decide +kernel) (by decide +kernel)
set_option maxRecDepth 20000 in
theorem gX7_handInsBy_Jx4a65c_size_8abf5 : GoodIn wsX7_handInsBy (wsV RX7 140 RJx4a65c yJx4a65c_size_8abf5 wsJx4a65c_size_8abf5) := goodIn_app (goodIn_of _ (by decide +kernel)) ggX7_handInsBy_Jx4a65c_size_8abf5
set_option maxRecDepth 20000 in
theorem ggX7_handInsBy_Jx4a65c_get_915e3 : GoodIn wsX7_handInsBy wsJx4a65c_get_915e3 := goodIn_r _ [12, 8, 13, 14, 15, 16, 17, 18, 19, 20, 21, 22, 23, 6, 24, 25, 39, 40, 41] (by decide +kernel) (by decide +kernel)
set_option maxRecDepth 20000 in
theorem gX7_handInsBy_Jx4a65c_get_915e3 : GoodIn wsX7_handInsBy (wsV RX7 142 RJx4a65c yJx4a65c_get_915e3 wsJx4a65c_get_915e3) := goodIn_app (goodIn_of _ (by decide +kernel)) ggX7_handInsBy_Jx4a65c_get_915e3
theorem dX7_handInsBy_0 : decode cX7_handInsBy 0 = .ok (.iconst 0, 1) := by decide +kernel
theorem dX7_handInsBy_1 : decode cX7_handInsBy 1 = .ok (.istore_n 2, 1) := by decide +kernel
theorem dX7_handInsBy_2 : decode cX7_handInsBy 2 = .ok (.iconst 0, 1) := by decide +kernel
theorem dX7_handInsBy_3 : decode cX7_handInsBy 3 = .ok (.istore_n 3, 1) := by decide +kernel
theorem dX7_handInsBy_4 : decode cX7_handInsBy 4 = .ok (.iload_n 3, 1) := by decide +kernel
theorem dX7_handInsBy_5 : decode cX7_handInsBy 5 = .ok (.aload_n 0, 1) := by decide +kernel
theorem dX7_handInsBy_6 : decode cX7_handInsBy 6 = .ok (.getfield 20, 3) := by decide +kernel
theorem dX7_handInsBy_9 : decode cX7_handInsBy 9 = .ok (.invokevirtual 140, 3) := by decide +kernel
theorem dX7_handInsBy_12 : decode cX7_handInsBy 12 = .ok (.if_icmp .ge 30, 3) := by decide +kernel
theorem dX7_handInsBy_15 : decode cX7_handInsBy 15 = .ok (.aload_n 0, 1) := by decide +kernel
theorem dX7_handInsBy_16 : decode cX7_handInsBy 16 = .ok (.getfield 20, 3) := by decide +kernel
theorem dX7_handInsBy_19 : decode cX7_handInsBy 19 = .ok (.iload_n 3, 1) := by decide +kernel
theorem dX7_handInsBy_20 : decode cX7_handInsBy 20 = .ok (.invokevirtual 142, 3) := by decide +kernel
theorem dX7_handInsBy_23 : decode cX7_handInsBy 23 = .ok (.checkcast 191, 3) := by decide +kernel
theorem dX7_handInsBy_26 : decode cX7_handInsBy 26 = .ok (.getfield 261, 3) := by decide +kernel
theorem dX7_handInsBy_29 : decode cX7_handInsBy 29 = .ok (.iload_n 1, 1) := by decide +kernel
theorem dX7_handInsBy_30 : decode cX7_handInsBy 30 = .ok (.if_icmp .ne 6, 3) := by decide +kernel
theorem dX7_handInsBy_33 : decode cX7_handInsBy 33 = .ok (.iinc 2 1, 3) := by decide +kernel
theorem dX7_handInsBy_36 : decode cX7_handInsBy 36 = .ok (.iinc 3 1, 3) := by decide +kernel
theorem dX7_handInsBy_39 : decode cX7_handInsBy 39 = .ok (.goto (-35), 3) := by decide +kernel
theorem dX7_handInsBy_42 : decode cX7_handInsBy 42 = .ok (.iload_n 2, 1) := by decide +kernel
theorem dX7_handInsBy_43 : decode cX7_handInsBy 43 = .ok (.ireturn, 1) := by decide +kernel
theorem dX7_share_0 : decode cX7_share 0 = .ok (.iload_n 0, 1) := by decide +kernel
theorem dX7_share_1 : decode cX7_share 1 = .ok (.ifCond .le 10, 3) := by decide +kernel
theorem dX7_share_4 : decode cX7_share 4 = .ok (.bipush 60, 2) := by decide +kernel
theorem dX7_share_6 : decode cX7_share 6 = .ok (.iload_n 0, 1) := by decide +kernel
theorem dX7_share_7 : decode cX7_share 7 = .ok (.idiv, 1) := by decide +kernel
theorem dX7_share_8 : decode cX7_share 8 = .ok (.goto 4, 3) := by decide +kernel
theorem dX7_share_11 : decode cX7_share 11 = .ok (.iconst 0, 1) := by decide +kernel
theorem dX7_share_12 : decode cX7_share 12 = .ok (.ireturn, 1) := by decide +kernel
theorem dX7_placeOnBoard_0 : decode cX7_placeOnBoard 0 = .ok (.iconst 0, 1) := by decide +kernel
theorem dX7_placeOnBoard_1 : decode cX7_placeOnBoard 1 = .ok (.istore_n 3, 1) := by decide +kernel
theorem dX7_placeOnBoard_2 : decode cX7_placeOnBoard 2 = .ok (.iconst 0, 1) := by decide +kernel
theorem dX7_placeOnBoard_3 : decode cX7_placeOnBoard 3 = .ok (.istore 4, 2) := by decide +kernel
theorem dX7_placeOnBoard_5 : decode cX7_placeOnBoard 5 = .ok (.iload 4, 2) := by decide +kernel
theorem dX7_placeOnBoard_7 : decode cX7_placeOnBoard 7 = .ok (.iload_n 2, 1) := by decide +kernel
theorem dX7_placeOnBoard_8 : decode cX7_placeOnBoard 8 = .ok (.if_icmp .ge 74, 3) := by decide +kernel
theorem dX7_placeOnBoard_11 : decode cX7_placeOnBoard 11 = .ok (.aload_n 0, 1) := by decide +kernel
theorem dX7_placeOnBoard_12 : decode cX7_placeOnBoard 12 = .ok (.getfield 51, 3) := by decide +kernel
theorem dX7_placeOnBoard_15 : decode cX7_placeOnBoard 15 = .ok (.iload 4, 2) := by decide +kernel
theorem dX7_placeOnBoard_17 : decode cX7_placeOnBoard 17 = .ok (.iaload, 1) := by decide +kernel
theorem dX7_placeOnBoard_18 : decode cX7_placeOnBoard 18 = .ok (.aload_n 0, 1) := by decide +kernel
theorem dX7_placeOnBoard_19 : decode cX7_placeOnBoard 19 = .ok (.getfield 51, 3) := by decide +kernel
theorem dX7_placeOnBoard_22 : decode cX7_placeOnBoard 22 = .ok (.iload_n 1, 1) := by decide +kernel
theorem dX7_placeOnBoard_23 : decode cX7_placeOnBoard 23 = .ok (.iaload, 1) := by decide +kernel
theorem dX7_placeOnBoard_24 : decode cX7_placeOnBoard 24 = .ok (.if_icmp .le 7, 3) := by decide +kernel
theorem dX7_placeOnBoard_27 : decode cX7_placeOnBoard 27 = .ok (.iconst 1, 1) := by decide +kernel
theorem dX7_placeOnBoard_28 : decode cX7_placeOnBoard 28 = .ok (.goto 4, 3) := by decide +kernel
theorem dX7_placeOnBoard_31 : decode cX7_placeOnBoard 31 = .ok (.iconst 0, 1) := by decide +kernel
theorem dX7_placeOnBoard_32 : decode cX7_placeOnBoard 32 = .ok (.istore 5, 2) := by decide +kernel
theorem dX7_placeOnBoard_34 : decode cX7_placeOnBoard 34 = .ok (.aload_n 0, 1) := by decide +kernel
theorem dX7_placeOnBoard_35 : decode cX7_placeOnBoard 35 = .ok (.getfield 51, 3) := by decide +kernel
theorem dX7_placeOnBoard_38 : decode cX7_placeOnBoard 38 = .ok (.iload 4, 2) := by decide +kernel
theorem dX7_placeOnBoard_40 : decode cX7_placeOnBoard 40 = .ok (.iaload, 1) := by decide +kernel
theorem dX7_placeOnBoard_41 : decode cX7_placeOnBoard 41 = .ok (.aload_n 0, 1) := by decide +kernel
theorem dX7_placeOnBoard_42 : decode cX7_placeOnBoard 42 = .ok (.getfield 51, 3) := by decide +kernel
theorem dX7_placeOnBoard_45 : decode cX7_placeOnBoard 45 = .ok (.iload_n 1, 1) := by decide +kernel
theorem dX7_placeOnBoard_46 : decode cX7_placeOnBoard 46 = .ok (.iaload, 1) := by decide +kernel
theorem dX7_placeOnBoard_47 : decode cX7_placeOnBoard 47 = .ok (.if_icmp .ne 13, 3) := by decide +kernel
theorem dX7_placeOnBoard_50 : decode cX7_placeOnBoard 50 = .ok (.iload 4, 2) := by decide +kernel
theorem dX7_placeOnBoard_52 : decode cX7_placeOnBoard 52 = .ok (.iload_n 1, 1) := by decide +kernel
theorem dX7_placeOnBoard_53 : decode cX7_placeOnBoard 53 = .ok (.if_icmp .ge 7, 3) := by decide +kernel
theorem dX7_placeOnBoard_56 : decode cX7_placeOnBoard 56 = .ok (.iconst 1, 1) := by decide +kernel
theorem dX7_placeOnBoard_57 : decode cX7_placeOnBoard 57 = .ok (.goto 4, 3) := by decide +kernel
theorem dX7_placeOnBoard_60 : decode cX7_placeOnBoard 60 = .ok (.iconst 0, 1) := by decide +kernel
theorem dX7_placeOnBoard_61 : decode cX7_placeOnBoard 61 = .ok (.istore 6, 2) := by decide +kernel
theorem dX7_placeOnBoard_63 : decode cX7_placeOnBoard 63 = .ok (.iload 5, 2) := by decide +kernel
theorem dX7_placeOnBoard_65 : decode cX7_placeOnBoard 65 = .ok (.ifCond .ne 8, 3) := by decide +kernel
theorem dX7_placeOnBoard_68 : decode cX7_placeOnBoard 68 = .ok (.iload 6, 2) := by decide +kernel
theorem dX7_placeOnBoard_70 : decode cX7_placeOnBoard 70 = .ok (.ifCond .eq 6, 3) := by decide +kernel
theorem dX7_placeOnBoard_73 : decode cX7_placeOnBoard 73 = .ok (.iinc 3 1, 3) := by decide +kernel
theorem dX7_placeOnBoard_76 : decode cX7_placeOnBoard 76 = .ok (.iinc 4 1, 3) := by decide +kernel
theorem dX7_placeOnBoard_79 : decode cX7_placeOnBoard 79 = .ok (.goto (-74), 3) := by decide +kernel
theorem dX7_placeOnBoard_82 : decode cX7_placeOnBoard 82 = .ok (.iload_n 3, 1) := by decide +kernel
theorem dX7_placeOnBoard_83 : decode cX7_placeOnBoard 83 = .ok (.ireturn, 1) := by decide +kernel
set_option maxRecDepth 20000 in
theorem ggX7_gainFromFlag_X5_takers : GoodIn wsX7_gainFromFlag wsX5_takers := goodIn_r _ [5, 6, 7, 8, 3, 9, 10, 32, 33, 34, 35, 36, 37, 38, 39, 40, 41, 42, 43, 44, 45] (by decide +kernel) (by decide +kernel)
set_option maxRecDepth 20000 in
theorem gX7_gainFromFlag_X5_takers_n271 : GoodIn wsX7_gainFromFlag (wsX5_takers) := ggX7_gainFromFlag_X5_takers
set_option maxRecDepth 20000 in
theorem ggX7_gainFromFlag_J6_bitCount_0f7a4 : GoodIn wsX7_gainFromFlag wsJ6_bitCount_0f7a4 := goodIn_r _ [14, 15, 16, 17] (by decide +kernel) (by decide +kernel)
set_option maxRecDepth 20000 in
theorem gX7_gainFromFlag_J6_bitCount_0f7a4 : GoodIn wsX7_gainFromFlag (va_wsS RX7 216 yJ6_bitCount_0f7a4 wsJ6_bitCount_0f7a4) := goodIn_app (goodIn_of _ (by decide +kernel)) ggX7_gainFromFlag_J6_bitCount_0f7a4
set_option maxRecDepth 20000 in
theorem ggX7_gainFromFlag_X5_isTaken : GoodIn wsX7_gainFromFlag wsX5_isTaken := goodIn_r _ [9, 10, 32, 33, 34, 35, 36, 37, 38, 39, 40, 41, 42, 43, 44, 45] (by decide +kernel) (by decide +kernel)
set_option maxRecDepth 20000 in
theorem gX7_gainFromFlag_X5_isTaken_n254 : GoodIn wsX7_gainFromFlag (wsX5_isTaken) := ggX7_gainFromFlag_X5_isTaken
set_option maxRecDepth 20000 in
theorem ggX7_gainFromFlag_X7_share : GoodIn wsX7_gainFromFlag wsX7_share := goodIn_r _ [21] (by decide +kernel) (by decide +kernel)
set_option maxRecDepth 20000 in
theorem gX7_gainFromFlag_X7_share : GoodIn wsX7_gainFromFlag (va_wsS RX7 274 yX7_share wsX7_share) := goodIn_app (goodIn_of _ (by decide +kernel)) ggX7_gainFromFlag_X7_share
theorem dX7_gainFromFlag_0 : decode cX7_gainFromFlag 0 = .ok (.aload_n 0, 1) := by decide +kernel
theorem dX7_gainFromFlag_1 : decode cX7_gainFromFlag 1 = .ok (.getfield 54, 3) := by decide +kernel
theorem dX7_gainFromFlag_4 : decode cX7_gainFromFlag 4 = .ok (.iconst 1, 1) := by decide +kernel
theorem dX7_gainFromFlag_5 : decode cX7_gainFromFlag 5 = .ok (.isub, 1) := by decide +kernel
theorem dX7_gainFromFlag_6 : decode cX7_gainFromFlag 6 = .ok (.istore_n 3, 1) := by decide +kernel
theorem dX7_gainFromFlag_7 : decode cX7_gainFromFlag 7 = .ok (.aload_n 1, 1) := by decide +kernel
theorem dX7_gainFromFlag_8 : decode cX7_gainFromFlag 8 = .ok (.iload_n 3, 1) := by decide +kernel
theorem dX7_gainFromFlag_9 : decode cX7_gainFromFlag 9 = .ok (.bipush 100, 2) := by decide +kernel
theorem dX7_gainFromFlag_11 : decode cX7_gainFromFlag 11 = .ok (.invokevirtual 271, 3) := by decide +kernel
theorem dX7_gainFromFlag_14 : decode cX7_gainFromFlag 14 = .ok (.istore 4, 2) := by decide +kernel
theorem dX7_gainFromFlag_16 : decode cX7_gainFromFlag 16 = .ok (.iload_n 2, 1) := by decide +kernel
theorem dX7_gainFromFlag_17 : decode cX7_gainFromFlag 17 = .ok (.invokestatic 216, 3) := by decide +kernel
theorem dX7_gainFromFlag_20 : decode cX7_gainFromFlag 20 = .ok (.iconst 1, 1) := by decide +kernel
theorem dX7_gainFromFlag_21 : decode cX7_gainFromFlag 21 = .ok (.isub, 1) := by decide +kernel
theorem dX7_gainFromFlag_22 : decode cX7_gainFromFlag 22 = .ok (.istore 5, 2) := by decide +kernel
theorem dX7_gainFromFlag_24 : decode cX7_gainFromFlag 24 = .ok (.iconst 0, 1) := by decide +kernel
theorem dX7_gainFromFlag_25 : decode cX7_gainFromFlag 25 = .ok (.istore 6, 2) := by decide +kernel
theorem dX7_gainFromFlag_27 : decode cX7_gainFromFlag 27 = .ok (.iconst 0, 1) := by decide +kernel
theorem dX7_gainFromFlag_28 : decode cX7_gainFromFlag 28 = .ok (.istore 7, 2) := by decide +kernel
theorem dX7_gainFromFlag_30 : decode cX7_gainFromFlag 30 = .ok (.iload 7, 2) := by decide +kernel
theorem dX7_gainFromFlag_32 : decode cX7_gainFromFlag 32 = .ok (.iconst 5, 1) := by decide +kernel
theorem dX7_gainFromFlag_33 : decode cX7_gainFromFlag 33 = .ok (.if_icmp .ge 34, 3) := by decide +kernel
theorem dX7_gainFromFlag_36 : decode cX7_gainFromFlag 36 = .ok (.iload_n 2, 1) := by decide +kernel
theorem dX7_gainFromFlag_37 : decode cX7_gainFromFlag 37 = .ok (.iload 7, 2) := by decide +kernel
theorem dX7_gainFromFlag_39 : decode cX7_gainFromFlag 39 = .ok (.ishr, 1) := by decide +kernel
theorem dX7_gainFromFlag_40 : decode cX7_gainFromFlag 40 = .ok (.iconst 1, 1) := by decide +kernel
theorem dX7_gainFromFlag_41 : decode cX7_gainFromFlag 41 = .ok (.iand, 1) := by decide +kernel
theorem dX7_gainFromFlag_42 : decode cX7_gainFromFlag 42 = .ok (.iconst 1, 1) := by decide +kernel
theorem dX7_gainFromFlag_43 : decode cX7_gainFromFlag 43 = .ok (.if_icmp .ne 18, 3) := by decide +kernel
theorem dX7_gainFromFlag_46 : decode cX7_gainFromFlag 46 = .ok (.aload_n 1, 1) := by decide +kernel
theorem dX7_gainFromFlag_47 : decode cX7_gainFromFlag 47 = .ok (.iload 7, 2) := by decide +kernel
theorem dX7_gainFromFlag_49 : decode cX7_gainFromFlag 49 = .ok (.iload_n 3, 1) := by decide +kernel
theorem dX7_gainFromFlag_50 : decode cX7_gainFromFlag 50 = .ok (.bipush 100, 2) := by decide +kernel
theorem dX7_gainFromFlag_52 : decode cX7_gainFromFlag 52 = .ok (.invokevirtual 254, 3) := by decide +kernel
theorem dX7_gainFromFlag_55 : decode cX7_gainFromFlag 55 = .ok (.ifCond .eq 6, 3) := by decide +kernel
theorem dX7_gainFromFlag_58 : decode cX7_gainFromFlag 58 = .ok (.iinc 6 1, 3) := by decide +kernel
theorem dX7_gainFromFlag_61 : decode cX7_gainFromFlag 61 = .ok (.iinc 7 1, 3) := by decide +kernel
theorem dX7_gainFromFlag_64 : decode cX7_gainFromFlag 64 = .ok (.goto (-34), 3) := by decide +kernel
theorem dX7_gainFromFlag_67 : decode cX7_gainFromFlag 67 = .ok (.iload 4, 2) := by decide +kernel
theorem dX7_gainFromFlag_69 : decode cX7_gainFromFlag 69 = .ok (.iload 5, 2) := by decide +kernel
theorem dX7_gainFromFlag_71 : decode cX7_gainFromFlag 71 = .ok (.iadd, 1) := by decide +kernel
theorem dX7_gainFromFlag_72 : decode cX7_gainFromFlag 72 = .ok (.iload 6, 2) := by decide +kernel
theorem dX7_gainFromFlag_74 : decode cX7_gainFromFlag 74 = .ok (.isub, 1) := by decide +kernel
theorem dX7_gainFromFlag_75 : decode cX7_gainFromFlag 75 = .ok (.istore 7, 2) := by decide +kernel
theorem dX7_gainFromFlag_77 : decode cX7_gainFromFlag 77 = .ok (.iload 5, 2) := by decide +kernel
theorem dX7_gainFromFlag_79 : decode cX7_gainFromFlag 79 = .ok (.iload 7, 2) := by decide +kernel
theorem dX7_gainFromFlag_81 : decode cX7_gainFromFlag 81 = .ok (.invokestatic 274, 3) := by decide +kernel
theorem dX7_gainFromFlag_84 : decode cX7_gainFromFlag 84 = .ok (.imul, 1) := by decide +kernel
theorem dX7_gainFromFlag_85 : decode cX7_gainFromFlag 85 = .ok (.iconst 4, 1) := by decide +kernel
theorem dX7_gainFromFlag_86 : decode cX7_gainFromFlag 86 = .ok (.iload 7, 2) := by decide +kernel
theorem dX7_gainFromFlag_88 : decode cX7_gainFromFlag 88 = .ok (.imul, 1) := by decide +kernel
theorem dX7_gainFromFlag_89 : decode cX7_gainFromFlag 89 = .ok (.isub, 1) := by decide +kernel
theorem dX7_gainFromFlag_90 : decode cX7_gainFromFlag 90 = .ok (.istore 8, 2) := by decide +kernel
theorem dX7_gainFromFlag_92 : decode cX7_gainFromFlag 92 = .ok (.iload 6, 2) := by decide +kernel
theorem dX7_gainFromFlag_94 : decode cX7_gainFromFlag 94 = .ok (.iload 4, 2) := by decide +kernel
theorem dX7_gainFromFlag_96 : decode cX7_gainFromFlag 96 = .ok (.invokestatic 274, 3) := by decide +kernel
theorem dX7_gainFromFlag_99 : decode cX7_gainFromFlag 99 = .ok (.imul, 1) := by decide +kernel
theorem dX7_gainFromFlag_100 : decode cX7_gainFromFlag 100 = .ok (.iconst 4, 1) := by decide +kernel
theorem dX7_gainFromFlag_101 : decode cX7_gainFromFlag 101 = .ok (.iload 4, 2) := by decide +kernel
theorem dX7_gainFromFlag_103 : decode cX7_gainFromFlag 103 = .ok (.imul, 1) := by decide +kernel
theorem dX7_gainFromFlag_104 : decode cX7_gainFromFlag 104 = .ok (.isub, 1) := by decide +kernel
theorem dX7_gainFromFlag_105 : decode cX7_gainFromFlag 105 = .ok (.istore 9, 2) := by decide +kernel
theorem dX7_gainFromFlag_107 : decode cX7_gainFromFlag 107 = .ok (.iload 8, 2) := by decide +kernel
theorem dX7_gainFromFlag_109 : decode cX7_gainFromFlag 109 = .ok (.iload 9, 2) := by decide +kernel
theorem dX7_gainFromFlag_111 : decode cX7_gainFromFlag 111 = .ok (.isub, 1) := by decide +kernel
theorem dX7_gainFromFlag_112 : decode cX7_gainFromFlag 112 = .ok (.ireturn, 1) := by decide +kernel
theorem dX8_init_0 : decode cX8_init 0 = .ok (.aload_n 0, 1) := by decide +kernel
theorem dX8_init_1 : decode cX8_init 1 = .ok (.invokespecial 1, 3) := by decide +kernel
theorem dX8_init_4 : decode cX8_init 4 = .ok (.aload_n 0, 1) := by decide +kernel
theorem dX8_init_5 : decode cX8_init 5 = .ok (.bipush 120, 2) := by decide +kernel
theorem dX8_init_7 : decode cX8_init 7 = .ok (.newarray .int, 2) := by decide +kernel
theorem dX8_init_9 : decode cX8_init 9 = .ok (.putfield 7, 3) := by decide +kernel
theorem dX8_init_12 : decode cX8_init 12 = .ok (.aload_n 0, 1) := by decide +kernel
theorem dX8_init_13 : decode cX8_init 13 = .ok (.sipush 720, 3) := by decide +kernel
theorem dX8_init_16 : decode cX8_init 16 = .ok (.newarray .int, 2) := by decide +kernel
theorem dX8_init_18 : decode cX8_init 18 = .ok (.putfield 13, 3) := by decide +kernel
theorem dX8_init_21 : decode cX8_init 21 = .ok (.aload_n 0, 1) := by decide +kernel
theorem dX8_init_22 : decode cX8_init 22 = .ok (.sipush 720, 3) := by decide +kernel
theorem dX8_init_25 : decode cX8_init 25 = .ok (.newarray .int, 2) := by decide +kernel
theorem dX8_init_27 : decode cX8_init 27 = .ok (.putfield 16, 3) := by decide +kernel
theorem dX8_init_30 : decode cX8_init 30 = .ok (.aload_n 0, 1) := by decide +kernel
theorem dX8_init_31 : decode cX8_init 31 = .ok (.bipush 30, 2) := by decide +kernel
theorem dX8_init_33 : decode cX8_init 33 = .ok (.newarray .int, 2) := by decide +kernel
theorem dX8_init_35 : decode cX8_init 35 = .ok (.putfield 19, 3) := by decide +kernel
theorem dX8_init_38 : decode cX8_init 38 = .ok (.aload_n 0, 1) := by decide +kernel
theorem dX8_init_39 : decode cX8_init 39 = .ok (.bipush 15, 2) := by decide +kernel
theorem dX8_init_41 : decode cX8_init 41 = .ok (.newarray .boolean, 2) := by decide +kernel
theorem dX8_init_43 : decode cX8_init 43 = .ok (.putfield 22, 3) := by decide +kernel
theorem dX8_init_46 : decode cX8_init 46 = .ok (.aload_n 0, 1) := by decide +kernel
theorem dX8_init_47 : decode cX8_init 47 = .ok (.bipush 24, 2) := by decide +kernel
theorem dX8_init_49 : decode cX8_init 49 = .ok (.newarray .int, 2) := by decide +kernel
theorem dX8_init_51 : decode cX8_init 51 = .ok (.putfield 26, 3) := by decide +kernel
theorem dX8_init_54 : decode cX8_init 54 = .ok (.aload_n 0, 1) := by decide +kernel
theorem dX8_init_55 : decode cX8_init 55 = .ok (.bipush 24, 2) := by decide +kernel
theorem dX8_init_57 : decode cX8_init 57 = .ok (.newarray .int, 2) := by decide +kernel
theorem dX8_init_59 : decode cX8_init 59 = .ok (.putfield 29, 3) := by decide +kernel
theorem dX8_init_62 : decode cX8_init 62 = .ok (.aload_n 0, 1) := by decide +kernel
theorem dX8_init_63 : decode cX8_init 63 = .ok (.bipush 120, 2) := by decide +kernel
theorem dX8_init_65 : decode cX8_init 65 = .ok (.newarray .int, 2) := by decide +kernel
theorem dX8_init_67 : decode cX8_init 67 = .ok (.putfield 32, 3) := by decide +kernel
theorem dX8_init_70 : decode cX8_init 70 = .ok (.aload_n 0, 1) := by decide +kernel
theorem dX8_init_71 : decode cX8_init 71 = .ok (.bipush 8, 2) := by decide +kernel
theorem dX8_init_73 : decode cX8_init 73 = .ok (.newarray .int, 2) := by decide +kernel
theorem dX8_init_75 : decode cX8_init 75 = .ok (.putfield 35, 3) := by decide +kernel
theorem dX8_init_78 : decode cX8_init 78 = .ok (.aload_n 0, 1) := by decide +kernel
theorem dX8_init_79 : decode cX8_init 79 = .ok (.bipush 15, 2) := by decide +kernel
theorem dX8_init_81 : decode cX8_init 81 = .ok (.newarray .int, 2) := by decide +kernel
theorem dX8_init_83 : decode cX8_init 83 = .ok (.putfield 38, 3) := by decide +kernel
theorem dX8_init_86 : decode cX8_init 86 = .ok (.aload_n 0, 1) := by decide +kernel
theorem dX8_init_87 : decode cX8_init 87 = .ok (.bipush 15, 2) := by decide +kernel
theorem dX8_init_89 : decode cX8_init 89 = .ok (.newarray .int, 2) := by decide +kernel
theorem dX8_init_91 : decode cX8_init 91 = .ok (.putfield 41, 3) := by decide +kernel
theorem dX8_init_94 : decode cX8_init 94 = .ok (.aload_n 0, 1) := by decide +kernel
theorem dX8_init_95 : decode cX8_init 95 = .ok (.bipush 15, 2) := by decide +kernel
theorem dX8_init_97 : decode cX8_init 97 = .ok (.newarray .int, 2) := by decide +kernel
theorem dX8_init_99 : decode cX8_init 99 = .ok (.putfield 44, 3) := by decide +kernel
theorem dX8_init_102 : decode cX8_init 102 = .ok (.aload_n 0, 1) := by decide +kernel
theorem dX8_init_103 : decode cX8_init 103 = .ok (.bipush 7, 2) := by decide +kernel
theorem dX8_init_105 : decode cX8_init 105 = .ok (.newarray .int, 2) := by decide +kernel
theorem dX8_init_107 : decode cX8_init 107 = .ok (.putfield 47, 3) := by decide +kernel
theorem dX8_init_110 : decode cX8_init 110 = .ok (.aload_n 0, 1) := by decide +kernel
theorem dX8_init_111 : decode cX8_init 111 = .ok (.bipush 9, 2) := by decide +kernel
theorem dX8_init_113 : decode cX8_init 113 = .ok (.newarray .int, 2) := by decide +kernel
theorem dX8_init_115 : decode cX8_init 115 = .ok (.putfield 50, 3) := by decide +kernel
theorem dX8_init_118 : decode cX8_init 118 = .ok (.aload_n 0, 1) := by decide +kernel
theorem dX8_init_119 : decode cX8_init 119 = .ok (.sipush 400, 3) := by decide +kernel
theorem dX8_init_122 : decode cX8_init 122 = .ok (.newarray .int, 2) := by decide +kernel
theorem dX8_init_124 : decode cX8_init 124 = .ok (.putfield 53, 3) := by decide +kernel
theorem dX8_init_127 : decode cX8_init 127 = .ok (.aload_n 0, 1) := by decide +kernel
theorem dX8_init_128 : decode cX8_init 128 = .ok (.sipush 400, 3) := by decide +kernel
theorem dX8_init_131 : decode cX8_init 131 = .ok (.newarray .int, 2) := by decide +kernel
theorem dX8_init_133 : decode cX8_init 133 = .ok (.putfield 56, 3) := by decide +kernel
theorem dX8_init_136 : decode cX8_init 136 = .ok (.aload_n 0, 1) := by decide +kernel
theorem dX8_init_137 : decode cX8_init 137 = .ok (.sipush 400, 3) := by decide +kernel
theorem dX8_init_140 : decode cX8_init 140 = .ok (.newarray .int, 2) := by decide +kernel
theorem dX8_init_142 : decode cX8_init 142 = .ok (.putfield 59, 3) := by decide +kernel
theorem dX8_init_145 : decode cX8_init 145 = .ok (.aload_n 0, 1) := by decide +kernel
theorem dX8_init_146 : decode cX8_init 146 = .ok (.sipush 400, 3) := by decide +kernel
theorem dX8_init_149 : decode cX8_init 149 = .ok (.newarray .int, 2) := by decide +kernel
theorem dX8_init_151 : decode cX8_init 151 = .ok (.putfield 62, 3) := by decide +kernel
theorem dX8_init_154 : decode cX8_init 154 = .ok (.aload_n 0, 1) := by decide +kernel
theorem dX8_init_155 : decode cX8_init 155 = .ok (.sipush 400, 3) := by decide +kernel
theorem dX8_init_158 : decode cX8_init 158 = .ok (.newarray .int, 2) := by decide +kernel
theorem dX8_init_160 : decode cX8_init 160 = .ok (.putfield 65, 3) := by decide +kernel
theorem dX8_init_163 : decode cX8_init 163 = .ok (.aload_n 0, 1) := by decide +kernel
theorem dX8_init_164 : decode cX8_init 164 = .ok (.sipush 400, 3) := by decide +kernel
theorem dX8_init_167 : decode cX8_init 167 = .ok (.newarray .int, 2) := by decide +kernel
theorem dX8_init_169 : decode cX8_init 169 = .ok (.putfield 68, 3) := by decide +kernel
theorem dX8_init_172 : decode cX8_init 172 = .ok (.aload_n 0, 1) := by decide +kernel
theorem dX8_init_173 : decode cX8_init 173 = .ok (.sipush 1500, 3) := by decide +kernel
theorem dX8_init_176 : decode cX8_init 176 = .ok (.newarray .boolean, 2) := by decide +kernel
theorem dX8_init_178 : decode cX8_init 178 = .ok (.putfield 71, 3) := by decide +kernel
theorem dX8_init_181 : decode cX8_init 181 = .ok (.aload_n 0, 1) := by decide +kernel
theorem dX8_init_182 : decode cX8_init 182 = .ok (.bipush 45, 2) := by decide +kernel
theorem dX8_init_184 : decode cX8_init 184 = .ok (.newarray .int, 2) := by decide +kernel
theorem dX8_init_186 : decode cX8_init 186 = .ok (.putfield 74, 3) := by decide +kernel
theorem dX8_init_189 : decode cX8_init 189 = .ok (.aload_n 0, 1) := by decide +kernel
theorem dX8_init_190 : decode cX8_init 190 = .ok (.bipush 45, 2) := by decide +kernel
theorem dX8_init_192 : decode cX8_init 192 = .ok (.newarray .int, 2) := by decide +kernel
theorem dX8_init_194 : decode cX8_init 194 = .ok (.putfield 77, 3) := by decide +kernel
theorem dX8_init_197 : decode cX8_init 197 = .ok (.aload_n 0, 1) := by decide +kernel
theorem dX8_init_198 : decode cX8_init 198 = .ok (.bipush 45, 2) := by decide +kernel
theorem dX8_init_200 : decode cX8_init 200 = .ok (.newarray .int, 2) := by decide +kernel
theorem dX8_init_202 : decode cX8_init 202 = .ok (.putfield 80, 3) := by decide +kernel
theorem dX8_init_205 : decode cX8_init 205 = .ok (.aload_n 0, 1) := by decide +kernel
theorem dX8_init_206 : decode cX8_init 206 = .ok (.bipush 45, 2) := by decide +kernel
theorem dX8_init_208 : decode cX8_init 208 = .ok (.newarray .int, 2) := by decide +kernel
theorem dX8_init_210 : decode cX8_init 210 = .ok (.putfield 83, 3) := by decide +kernel
theorem dX8_init_213 : decode cX8_init 213 = .ok (.aload_n 0, 1) := by decide +kernel
theorem dX8_init_214 : decode cX8_init 214 = .ok (.bipush 18, 2) := by decide +kernel
theorem dX8_init_216 : decode cX8_init 216 = .ok (.newarray .int, 2) := by decide +kernel
theorem dX8_init_218 : decode cX8_init 218 = .ok (.dup, 1) := by decide +kernel
theorem dX8_init_219 : decode cX8_init 219 = .ok (.iconst 0, 1) := by decide +kernel
theorem dX8_init_220 : decode cX8_init 220 = .ok (.iconst 0, 1) := by decide +kernel
theorem dX8_init_221 : decode cX8_init 221 = .ok (.iastore, 1) := by decide +kernel
theorem dX8_init_222 : decode cX8_init 222 = .ok (.dup, 1) := by decide +kernel
theorem dX8_init_223 : decode cX8_init 223 = .ok (.iconst 1, 1) := by decide +kernel
theorem dX8_init_224 : decode cX8_init 224 = .ok (.iconst 1, 1) := by decide +kernel
theorem dX8_init_225 : decode cX8_init 225 = .ok (.iastore, 1) := by decide +kernel
theorem dX8_init_226 : decode cX8_init 226 = .ok (.dup, 1) := by decide +kernel
theorem dX8_init_227 : decode cX8_init 227 = .ok (.iconst 2, 1) := by decide +kernel
theorem dX8_init_228 : decode cX8_init 228 = .ok (.iconst 2, 1) := by decide +kernel
theorem dX8_init_229 : decode cX8_init 229 = .ok (.iastore, 1) := by decide +kernel
theorem dX8_init_230 : decode cX8_init 230 = .ok (.dup, 1) := by decide +kernel
theorem dX8_init_231 : decode cX8_init 231 = .ok (.iconst 3, 1) := by decide +kernel
theorem dX8_init_232 : decode cX8_init 232 = .ok (.iconst 0, 1) := by decide +kernel
theorem dX8_init_233 : decode cX8_init 233 = .ok (.iastore, 1) := by decide +kernel
theorem dX8_init_234 : decode cX8_init 234 = .ok (.dup, 1) := by decide +kernel
theorem dX8_init_235 : decode cX8_init 235 = .ok (.iconst 4, 1) := by decide +kernel
theorem dX8_init_236 : decode cX8_init 236 = .ok (.iconst 2, 1) := by decide +kernel
theorem dX8_init_237 : decode cX8_init 237 = .ok (.iastore, 1) := by decide +kernel
theorem dX8_init_238 : decode cX8_init 238 = .ok (.dup, 1) := by decide +kernel
theorem dX8_init_239 : decode cX8_init 239 = .ok (.iconst 5, 1) := by decide +kernel
theorem dX8_init_240 : decode cX8_init 240 = .ok (.iconst 1, 1) := by decide +kernel
theorem dX8_init_241 : decode cX8_init 241 = .ok (.iastore, 1) := by decide +kernel
theorem dX8_init_242 : decode cX8_init 242 = .ok (.dup, 1) := by decide +kernel
theorem dX8_init_243 : decode cX8_init 243 = .ok (.bipush 6, 2) := by decide +kernel
theorem dX8_init_245 : decode cX8_init 245 = .ok (.iconst 1, 1) := by decide +kernel
theorem dX8_init_246 : decode cX8_init 246 = .ok (.iastore, 1) := by decide +kernel
theorem dX8_init_247 : decode cX8_init 247 = .ok (.dup, 1) := by decide +kernel
theorem dX8_init_248 : decode cX8_init 248 = .ok (.bipush 7, 2) := by decide +kernel
theorem dX8_init_250 : decode cX8_init 250 = .ok (.iconst 0, 1) := by decide +kernel
theorem dX8_init_251 : decode cX8_init 251 = .ok (.iastore, 1) := by decide +kernel
theorem dX8_init_252 : decode cX8_init 252 = .ok (.dup, 1) := by decide +kernel
theorem dX8_init_253 : decode cX8_init 253 = .ok (.bipush 8, 2) := by decide +kernel
theorem dX8_init_255 : decode cX8_init 255 = .ok (.iconst 2, 1) := by decide +kernel
theorem dX8_init_256 : decode cX8_init 256 = .ok (.iastore, 1) := by decide +kernel
theorem dX8_init_257 : decode cX8_init 257 = .ok (.dup, 1) := by decide +kernel
theorem dX8_init_258 : decode cX8_init 258 = .ok (.bipush 9, 2) := by decide +kernel
theorem dX8_init_260 : decode cX8_init 260 = .ok (.iconst 1, 1) := by decide +kernel
theorem dX8_init_261 : decode cX8_init 261 = .ok (.iastore, 1) := by decide +kernel
theorem dX8_init_262 : decode cX8_init 262 = .ok (.dup, 1) := by decide +kernel
theorem dX8_init_263 : decode cX8_init 263 = .ok (.bipush 10, 2) := by decide +kernel
theorem dX8_init_265 : decode cX8_init 265 = .ok (.iconst 2, 1) := by decide +kernel
theorem dX8_init_266 : decode cX8_init 266 = .ok (.iastore, 1) := by decide +kernel
theorem dX8_init_267 : decode cX8_init 267 = .ok (.dup, 1) := by decide +kernel
theorem dX8_init_268 : decode cX8_init 268 = .ok (.bipush 11, 2) := by decide +kernel
theorem dX8_init_270 : decode cX8_init 270 = .ok (.iconst 0, 1) := by decide +kernel
theorem dX8_init_271 : decode cX8_init 271 = .ok (.iastore, 1) := by decide +kernel
theorem dX8_init_272 : decode cX8_init 272 = .ok (.dup, 1) := by decide +kernel
theorem dX8_init_273 : decode cX8_init 273 = .ok (.bipush 12, 2) := by decide +kernel
theorem dX8_init_275 : decode cX8_init 275 = .ok (.iconst 2, 1) := by decide +kernel
theorem dX8_init_276 : decode cX8_init 276 = .ok (.iastore, 1) := by decide +kernel
theorem dX8_init_277 : decode cX8_init 277 = .ok (.dup, 1) := by decide +kernel
theorem dX8_init_278 : decode cX8_init 278 = .ok (.bipush 13, 2) := by decide +kernel
theorem dX8_init_280 : decode cX8_init 280 = .ok (.iconst 0, 1) := by decide +kernel
theorem dX8_init_281 : decode cX8_init 281 = .ok (.iastore, 1) := by decide +kernel
theorem dX8_init_282 : decode cX8_init 282 = .ok (.dup, 1) := by decide +kernel
theorem dX8_init_283 : decode cX8_init 283 = .ok (.bipush 14, 2) := by decide +kernel
theorem dX8_init_285 : decode cX8_init 285 = .ok (.iconst 1, 1) := by decide +kernel
theorem dX8_init_286 : decode cX8_init 286 = .ok (.iastore, 1) := by decide +kernel
theorem dX8_init_287 : decode cX8_init 287 = .ok (.dup, 1) := by decide +kernel
theorem dX8_init_288 : decode cX8_init 288 = .ok (.bipush 15, 2) := by decide +kernel
theorem dX8_init_290 : decode cX8_init 290 = .ok (.iconst 2, 1) := by decide +kernel
theorem dX8_init_291 : decode cX8_init 291 = .ok (.iastore, 1) := by decide +kernel
theorem dX8_init_292 : decode cX8_init 292 = .ok (.dup, 1) := by decide +kernel
theorem dX8_init_293 : decode cX8_init 293 = .ok (.bipush 16, 2) := by decide +kernel
theorem dX8_init_295 : decode cX8_init 295 = .ok (.iconst 1, 1) := by decide +kernel
theorem dX8_init_296 : decode cX8_init 296 = .ok (.iastore, 1) := by decide +kernel
theorem dX8_init_297 : decode cX8_init 297 = .ok (.dup, 1) := by decide +kernel
theorem dX8_init_298 : decode cX8_init 298 = .ok (.bipush 17, 2) := by decide +kernel
theorem dX8_init_300 : decode cX8_init 300 = .ok (.iconst 0, 1) := by decide +kernel
theorem dX8_init_301 : decode cX8_init 301 = .ok (.iastore, 1) := by decide +kernel
theorem dX8_init_302 : decode cX8_init 302 = .ok (.putfield 86, 3) := by decide +kernel
theorem dX8_init_305 : decode cX8_init 305 = .ok (.aload_n 0, 1) := by decide +kernel
theorem dX8_init_306 : decode cX8_init 306 = .ok (.sipush 7500, 3) := by decide +kernel
theorem dX8_init_309 : decode cX8_init 309 = .ok (.newarray .int, 2) := by decide +kernel
theorem dX8_init_311 : decode cX8_init 311 = .ok (.putfield 89, 3) := by decide +kernel
theorem dX8_init_314 : decode cX8_init 314 = .ok (.aload_n 0, 1) := by decide +kernel
theorem dX8_init_315 : decode cX8_init 315 = .ok (.iconst 5, 1) := by decide +kernel
theorem dX8_init_316 : decode cX8_init 316 = .ok (.newarray .int, 2) := by decide +kernel
theorem dX8_init_318 : decode cX8_init 318 = .ok (.putfield 92, 3) := by decide +kernel
theorem dX8_init_321 : decode cX8_init 321 = .ok (.aload_n 0, 1) := by decide +kernel
theorem dX8_init_322 : decode cX8_init 322 = .ok (.iconst 5, 1) := by decide +kernel
theorem dX8_init_323 : decode cX8_init 323 = .ok (.newarray .int, 2) := by decide +kernel
theorem dX8_init_325 : decode cX8_init 325 = .ok (.putfield 95, 3) := by decide +kernel
theorem dX8_init_328 : decode cX8_init 328 = .ok (.aload_n 0, 1) := by decide +kernel
theorem dX8_init_329 : decode cX8_init 329 = .ok (.iconst 5, 1) := by decide +kernel
theorem dX8_init_330 : decode cX8_init 330 = .ok (.newarray .int, 2) := by decide +kernel
theorem dX8_init_332 : decode cX8_init 332 = .ok (.putfield 98, 3) := by decide +kernel
theorem dX8_init_335 : decode cX8_init 335 = .ok (.aload_n 0, 1) := by decide +kernel
theorem dX8_init_336 : decode cX8_init 336 = .ok (.iconst 5, 1) := by decide +kernel
theorem dX8_init_337 : decode cX8_init 337 = .ok (.newarray .int, 2) := by decide +kernel
theorem dX8_init_339 : decode cX8_init 339 = .ok (.putfield 101, 3) := by decide +kernel
theorem dX8_init_342 : decode cX8_init 342 = .ok (.aload_n 0, 1) := by decide +kernel
theorem dX8_init_343 : decode cX8_init 343 = .ok (.getfield 47, 3) := by decide +kernel
theorem dX8_init_346 : decode cX8_init 346 = .ok (.iconst 0, 1) := by decide +kernel
theorem dX8_init_347 : decode cX8_init 347 = .ok (.bipush 60, 2) := by decide +kernel
theorem dX8_init_349 : decode cX8_init 349 = .ok (.iastore, 1) := by decide +kernel
theorem dX8_init_350 : decode cX8_init 350 = .ok (.aload_n 0, 1) := by decide +kernel
theorem dX8_init_351 : decode cX8_init 351 = .ok (.getfield 47, 3) := by decide +kernel
theorem dX8_init_354 : decode cX8_init 354 = .ok (.iconst 2, 1) := by decide +kernel
theorem dX8_init_355 : decode cX8_init 355 = .ok (.iconst 3, 1) := by decide +kernel
theorem dX8_init_356 : decode cX8_init 356 = .ok (.iastore, 1) := by decide +kernel
theorem dX8_init_357 : decode cX8_init 357 = .ok (.aload_n 0, 1) := by decide +kernel
theorem dX8_init_358 : decode cX8_init 358 = .ok (.getfield 47, 3) := by decide +kernel
theorem dX8_init_361 : decode cX8_init 361 = .ok (.iconst 3, 1) := by decide +kernel
theorem dX8_init_362 : decode cX8_init 362 = .ok (.bipush 100, 2) := by decide +kernel
theorem dX8_init_364 : decode cX8_init 364 = .ok (.iastore, 1) := by decide +kernel
theorem dX8_init_365 : decode cX8_init 365 = .ok (.aload_n 0, 1) := by decide +kernel
theorem dX8_init_366 : decode cX8_init 366 = .ok (.getfield 47, 3) := by decide +kernel
theorem dX8_init_369 : decode cX8_init 369 = .ok (.iconst 4, 1) := by decide +kernel
theorem dX8_init_370 : decode cX8_init 370 = .ok (.iconst 1, 1) := by decide +kernel
theorem dX8_init_371 : decode cX8_init 371 = .ok (.iastore, 1) := by decide +kernel
theorem dX8_init_372 : decode cX8_init 372 = .ok (.aload_n 0, 1) := by decide +kernel
theorem dX8_init_373 : decode cX8_init 373 = .ok (.getfield 47, 3) := by decide +kernel
theorem dX8_init_376 : decode cX8_init 376 = .ok (.iconst 5, 1) := by decide +kernel
theorem dX8_init_377 : decode cX8_init 377 = .ok (.iconst 1, 1) := by decide +kernel
theorem dX8_init_378 : decode cX8_init 378 = .ok (.iastore, 1) := by decide +kernel
theorem dX8_init_379 : decode cX8_init 379 = .ok (.aload_n 0, 1) := by decide +kernel
theorem dX8_init_380 : decode cX8_init 380 = .ok (.getfield 47, 3) := by decide +kernel
theorem dX8_init_383 : decode cX8_init 383 = .ok (.bipush 6, 2) := by decide +kernel
theorem dX8_init_385 : decode cX8_init 385 = .ok (.iconst 1, 1) := by decide +kernel
theorem dX8_init_386 : decode cX8_init 386 = .ok (.iastore, 1) := by decide +kernel
theorem dX8_init_387 : decode cX8_init 387 = .ok (.return_, 1) := by decide +kernel
theorem dX8_isTeam_0 : decode cX8_isTeam 0 = .ok (.iload_n 1, 1) := by decide +kernel
theorem dX8_isTeam_1 : decode cX8_isTeam 1 = .ok (.ifCond .lt 15, 3) := by decide +kernel
theorem dX8_isTeam_4 : decode cX8_isTeam 4 = .ok (.iload_n 1, 1) := by decide +kernel
theorem dX8_isTeam_5 : decode cX8_isTeam 5 = .ok (.aload_n 0, 1) := by decide +kernel
theorem dX8_isTeam_6 : decode cX8_isTeam 6 = .ok (.getfield 104, 3) := by decide +kernel
theorem dX8_isTeam_9 : decode cX8_isTeam 9 = .ok (.if_icmp .ge 7, 3) := by decide +kernel
theorem dX8_isTeam_12 : decode cX8_isTeam 12 = .ok (.iconst 1, 1) := by decide +kernel
theorem dX8_isTeam_13 : decode cX8_isTeam 13 = .ok (.goto 4, 3) := by decide +kernel
theorem dX8_isTeam_16 : decode cX8_isTeam 16 = .ok (.iconst 0, 1) := by decide +kernel
theorem dX8_isTeam_17 : decode cX8_isTeam 17 = .ok (.ireturn, 1) := by decide +kernel
theorem dX8_isIn_0 : decode cX8_isIn 0 = .ok (.lload_n 0, 1) := by decide +kernel
theorem dX8_isIn_1 : decode cX8_isIn 1 = .ok (.lload_n 2, 1) := by decide +kernel
theorem dX8_isIn_2 : decode cX8_isIn 2 = .ok (.lcmp, 1) := by decide +kernel
theorem dX8_isIn_3 : decode cX8_isIn 3 = .ok (.ifCond .lt 14, 3) := by decide +kernel
theorem dX8_isIn_6 : decode cX8_isIn 6 = .ok (.lload_n 0, 1) := by decide +kernel
theorem dX8_isIn_7 : decode cX8_isIn 7 = .ok (.lload 4, 2) := by decide +kernel
theorem dX8_isIn_9 : decode cX8_isIn 9 = .ok (.lcmp, 1) := by decide +kernel
theorem dX8_isIn_10 : decode cX8_isIn 10 = .ok (.ifCond .gt 7, 3) := by decide +kernel
theorem dX8_isIn_13 : decode cX8_isIn 13 = .ok (.iconst 1, 1) := by decide +kernel
theorem dX8_isIn_14 : decode cX8_isIn 14 = .ok (.goto 4, 3) := by decide +kernel
theorem dX8_isIn_17 : decode cX8_isIn 17 = .ok (.iconst 0, 1) := by decide +kernel
theorem dX8_isIn_18 : decode cX8_isIn 18 = .ok (.ireturn, 1) := by decide +kernel
set_option maxRecDepth 20000 in
theorem ggX8_isPlace_X8_isTeam : GoodIn wsX8_isPlace wsX8_isTeam := goodIn_r _ [6, 7, 11, 12, 13, 14, 15, 16, 17, 18, 19, 20, 21, 22, 23, 24, 25, 26, 27, 28, 29, 30, 31, 32, 33, 34, 35, 36, 37, 38, 39, 40, 41, 42, 43, 44, 45, 46, 47, 48, 49, 50, 51, 52, 53] (by decide +kernel) (by decide +kernel)
set_option maxRecDepth 20000 in
theorem gX8_isPlace_X8_isTeam : GoodIn wsX8_isPlace (wsV RX8 108 RX8 yX8_isTeam wsX8_isTeam) := goodIn_app (goodIn_of _ (by decide +kernel)) ggX8_isPlace_X8_isTeam
set_option maxRecDepth 20000 in
theorem ggX8_isPlace_X8_isIn : GoodIn wsX8_isPlace wsX8_isIn := goodIn_r _ [10] (by decide +kernel) (by decide +kernel)
set_option maxRecDepth 20000 in
theorem gX8_isPlace_X8_isIn : GoodIn wsX8_isPlace (va_wsS RX8 114 yX8_isIn wsX8_isIn) := goodIn_app (goodIn_of _ (by decide +kernel)) ggX8_isPlace_X8_isIn
theorem dX8_isPlace_0 : decode cX8_isPlace 0 = .ok (.aload_n 0, 1) := by decide +kernel
theorem dX8_isPlace_1 : decode cX8_isPlace 1 = .ok (.iload_n 1, 1) := by decide +kernel
theorem dX8_isPlace_2 : decode cX8_isPlace 2 = .ok (.invokevirtual 108, 3) := by decide +kernel
theorem dX8_isPlace_5 : decode cX8_isPlace 5 = .ok (.ifCond .eq 19, 3) := by decide +kernel
theorem dX8_isPlace_8 : decode cX8_isPlace 8 = .ok (.iload_n 2, 1) := by decide +kernel
theorem dX8_isPlace_9 : decode cX8_isPlace 9 = .ok (.i2l, 1) := by decide +kernel
theorem dX8_isPlace_10 : decode cX8_isPlace 10 = .ok (.lconst 0, 1) := by decide +kernel
theorem dX8_isPlace_11 : decode cX8_isPlace 11 = .ok (.ldc2_w 112, 3) := by decide +kernel
theorem dX8_isPlace_14 : decode cX8_isPlace 14 = .ok (.invokestatic 114, 3) := by decide +kernel
theorem dX8_isPlace_17 : decode cX8_isPlace 17 = .ok (.ifCond .eq 7, 3) := by decide +kernel
theorem dX8_isPlace_20 : decode cX8_isPlace 20 = .ok (.iconst 1, 1) := by decide +kernel
theorem dX8_isPlace_21 : decode cX8_isPlace 21 = .ok (.goto 4, 3) := by decide +kernel
theorem dX8_isPlace_24 : decode cX8_isPlace 24 = .ok (.iconst 0, 1) := by decide +kernel
theorem dX8_isPlace_25 : decode cX8_isPlace 25 = .ok (.ireturn, 1) := by decide +kernel
theorem dX8_team_0 : decode cX8_team 0 = .ok (.aload_n 0, 1) := by decide +kernel
theorem dX8_team_1 : decode cX8_team 1 = .ok (.getfield 118, 3) := by decide +kernel
theorem dX8_team_4 : decode cX8_team 4 = .ok (.ifCond .le 6, 3) := by decide +kernel
theorem dX8_team_7 : decode cX8_team 7 = .ok (.bipush (-3), 2) := by decide +kernel
theorem dX8_team_9 : decode cX8_team 9 = .ok (.ireturn, 1) := by decide +kernel
theorem dX8_team_10 : decode cX8_team 10 = .ok (.aload_n 0, 1) := by decide +kernel
theorem dX8_team_11 : decode cX8_team 11 = .ok (.getfield 104, 3) := by decide +kernel
theorem dX8_team_14 : decode cX8_team 14 = .ok (.iconst 5, 1) := by decide +kernel
theorem dX8_team_15 : decode cX8_team 15 = .ok (.if_icmp .ne 6, 3) := by decide +kernel
theorem dX8_team_18 : decode cX8_team 18 = .ok (.bipush (-4), 2) := by decide +kernel
theorem dX8_team_20 : decode cX8_team 20 = .ok (.ireturn, 1) := by decide +kernel
theorem dX8_team_21 : decode cX8_team 21 = .ok (.aload_n 0, 1) := by decide +kernel
theorem dX8_team_22 : decode cX8_team 22 = .ok (.dup, 1) := by decide +kernel
theorem dX8_team_23 : decode cX8_team 23 = .ok (.getfield 104, 3) := by decide +kernel
theorem dX8_team_26 : decode cX8_team 26 = .ok (.iconst 1, 1) := by decide +kernel
theorem dX8_team_27 : decode cX8_team 27 = .ok (.iadd, 1) := by decide +kernel
theorem dX8_team_28 : decode cX8_team 28 = .ok (.putfield 104, 3) := by decide +kernel
theorem dX8_team_31 : decode cX8_team 31 = .ok (.aload_n 0, 1) := by decide +kernel
theorem dX8_team_32 : decode cX8_team 32 = .ok (.getfield 104, 3) := by decide +kernel
theorem dX8_team_35 : decode cX8_team 35 = .ok (.iconst 1, 1) := by decide +kernel
theorem dX8_team_36 : decode cX8_team 36 = .ok (.isub, 1) := by decide +kernel
theorem dX8_team_37 : decode cX8_team 37 = .ok (.ireturn, 1) := by decide +kernel
set_option maxRecDepth 20000 in
theorem ggX8_feed_X8_isIn : GoodIn wsX8_feed wsX8_isIn := goodIn_r _ [8] (by decide +kernel) (by decide +kernel)
set_option maxRecDepth 20000 in
theorem gX8_feed_X8_isIn : GoodIn wsX8_feed (va_wsS RX8 114 yX8_isIn wsX8_isIn) := goodIn_app (goodIn_of _ (by decide +kernel)) ggX8_feed_X8_isIn
theorem dX8_feed_0 : decode cX8_feed 0 = .ok (.iload_n 3, 1) := by decide +kernel
theorem dX8_feed_1 : decode cX8_feed 1 = .ok (.i2l, 1) := by decide +kernel
theorem dX8_feed_2 : decode cX8_feed 2 = .ok (.lconst 1, 1) := by decide +kernel
theorem dX8_feed_3 : decode cX8_feed 3 = .ok (.ldc2_w 121, 3) := by decide +kernel
theorem dX8_feed_6 : decode cX8_feed 6 = .ok (.invokestatic 114, 3) := by decide +kernel
theorem dX8_feed_9 : decode cX8_feed 9 = .ok (.ifCond .ne 6, 3) := by decide +kernel
theorem dX8_feed_12 : decode cX8_feed 12 = .ok (.bipush (-2), 2) := by decide +kernel
theorem dX8_feed_14 : decode cX8_feed 14 = .ok (.ireturn, 1) := by decide +kernel
theorem dX8_feed_15 : decode cX8_feed 15 = .ok (.aload_n 0, 1) := by decide +kernel
theorem dX8_feed_16 : decode cX8_feed 16 = .ok (.getfield 123, 3) := by decide +kernel
theorem dX8_feed_19 : decode cX8_feed 19 = .ok (.iload_n 3, 1) := by decide +kernel
theorem dX8_feed_20 : decode cX8_feed 20 = .ok (.iadd, 1) := by decide +kernel
theorem dX8_feed_21 : decode cX8_feed 21 = .ok (.bipush 120, 2) := by decide +kernel
theorem dX8_feed_23 : decode cX8_feed 23 = .ok (.if_icmp .le 6, 3) := by decide +kernel
theorem dX8_feed_26 : decode cX8_feed 26 = .ok (.bipush (-4), 2) := by decide +kernel
theorem dX8_feed_28 : decode cX8_feed 28 = .ok (.ireturn, 1) := by decide +kernel
theorem dX8_feed_29 : decode cX8_feed 29 = .ok (.iload_n 3, 1) := by decide +kernel
theorem dX8_feed_30 : decode cX8_feed 30 = .ok (.iconst 1, 1) := by decide +kernel
theorem dX8_feed_31 : decode cX8_feed 31 = .ok (.isub, 1) := by decide +kernel
theorem dX8_feed_32 : decode cX8_feed 32 = .ok (.istore 4, 2) := by decide +kernel
theorem dX8_feed_34 : decode cX8_feed 34 = .ok (.iload 4, 2) := by decide +kernel
theorem dX8_feed_36 : decode cX8_feed 36 = .ok (.ifCond .lt 40, 3) := by decide +kernel
theorem dX8_feed_39 : decode cX8_feed 39 = .ok (.aload_n 0, 1) := by decide +kernel
theorem dX8_feed_40 : decode cX8_feed 40 = .ok (.getfield 7, 3) := by decide +kernel
theorem dX8_feed_43 : decode cX8_feed 43 = .ok (.aload_n 0, 1) := by decide +kernel
theorem dX8_feed_44 : decode cX8_feed 44 = .ok (.getfield 123, 3) := by decide +kernel
theorem dX8_feed_47 : decode cX8_feed 47 = .ok (.lload_n 1, 1) := by decide +kernel
theorem dX8_feed_48 : decode cX8_feed 48 = .ok (.bipush 8, 2) := by decide +kernel
theorem dX8_feed_50 : decode cX8_feed 50 = .ok (.iload 4, 2) := by decide +kernel
theorem dX8_feed_52 : decode cX8_feed 52 = .ok (.imul, 1) := by decide +kernel
theorem dX8_feed_53 : decode cX8_feed 53 = .ok (.lshr, 1) := by decide +kernel
theorem dX8_feed_54 : decode cX8_feed 54 = .ok (.ldc2_w 126, 3) := by decide +kernel
theorem dX8_feed_57 : decode cX8_feed 57 = .ok (.land, 1) := by decide +kernel
theorem dX8_feed_58 : decode cX8_feed 58 = .ok (.l2i, 1) := by decide +kernel
theorem dX8_feed_59 : decode cX8_feed 59 = .ok (.iastore, 1) := by decide +kernel
theorem dX8_feed_60 : decode cX8_feed 60 = .ok (.aload_n 0, 1) := by decide +kernel
theorem dX8_feed_61 : decode cX8_feed 61 = .ok (.dup, 1) := by decide +kernel
theorem dX8_feed_62 : decode cX8_feed 62 = .ok (.getfield 123, 3) := by decide +kernel
theorem dX8_feed_65 : decode cX8_feed 65 = .ok (.iconst 1, 1) := by decide +kernel
theorem dX8_feed_66 : decode cX8_feed 66 = .ok (.iadd, 1) := by decide +kernel
theorem dX8_feed_67 : decode cX8_feed 67 = .ok (.putfield 123, 3) := by decide +kernel
theorem dX8_feed_70 : decode cX8_feed 70 = .ok (.iinc 4 (-1), 3) := by decide +kernel
theorem dX8_feed_73 : decode cX8_feed 73 = .ok (.goto (-39), 3) := by decide +kernel
theorem dX8_feed_76 : decode cX8_feed 76 = .ok (.aload_n 0, 1) := by decide +kernel
theorem dX8_feed_77 : decode cX8_feed 77 = .ok (.getfield 123, 3) := by decide +kernel
theorem dX8_feed_80 : decode cX8_feed 80 = .ok (.ireturn, 1) := by decide +kernel
theorem dX8_sign_0 : decode cX8_sign 0 = .ok (.aload_n 0, 1) := by decide +kernel
theorem dX8_sign_1 : decode cX8_sign 1 = .ok (.getfield 128, 3) := by decide +kernel
theorem dX8_sign_4 : decode cX8_sign 4 = .ok (.aload_n 0, 1) := by decide +kernel
theorem dX8_sign_5 : decode cX8_sign 5 = .ok (.getfield 123, 3) := by decide +kernel
theorem dX8_sign_8 : decode cX8_sign 8 = .ok (.if_icmp .ge 15, 3) := by decide +kernel
theorem dX8_sign_11 : decode cX8_sign 11 = .ok (.aload_n 0, 1) := by decide +kernel
theorem dX8_sign_12 : decode cX8_sign 12 = .ok (.getfield 7, 3) := by decide +kernel
theorem dX8_sign_15 : decode cX8_sign 15 = .ok (.aload_n 0, 1) := by decide +kernel
theorem dX8_sign_16 : decode cX8_sign 16 = .ok (.getfield 128, 3) := by decide +kernel
theorem dX8_sign_19 : decode cX8_sign 19 = .ok (.iaload, 1) := by decide +kernel
theorem dX8_sign_20 : decode cX8_sign 20 = .ok (.goto 4, 3) := by decide +kernel
theorem dX8_sign_23 : decode cX8_sign 23 = .ok (.iconst (-1), 1) := by decide +kernel
theorem dX8_sign_24 : decode cX8_sign 24 = .ok (.ireturn, 1) := by decide +kernel
set_option maxRecDepth 20000 in
theorem ggX8_isDigit_X8_sign : GoodIn wsX8_isDigit wsX8_sign := goodIn_r _ [5, 6, 7, 8, 9, 10, 11, 12, 13, 14, 15, 16, 17, 18, 19, 20, 21, 22, 23, 24, 25, 26, 27, 28, 29, 30, 31, 32, 33, 34, 35, 36, 37, 38, 39, 40, 41, 42, 43, 44, 45, 46, 47, 48, 49, 50, 51] (by decide +kernel) (by decide +kernel)
set_option maxRecDepth 20000 in
theorem gX8_isDigit_X8_sign : GoodIn wsX8_isDigit (wsV RX8 131 RX8 yX8_sign wsX8_sign) := goodIn_app (goodIn_of _ (by decide +kernel)) ggX8_isDigit_X8_sign
theorem dX8_isDigit_0 : decode cX8_isDigit 0 = .ok (.aload_n 0, 1) := by decide +kernel
theorem dX8_isDigit_1 : decode cX8_isDigit 1 = .ok (.invokevirtual 131, 3) := by decide +kernel
theorem dX8_isDigit_4 : decode cX8_isDigit 4 = .ok (.bipush 48, 2) := by decide +kernel
theorem dX8_isDigit_6 : decode cX8_isDigit 6 = .ok (.if_icmp .lt 16, 3) := by decide +kernel
theorem dX8_isDigit_9 : decode cX8_isDigit 9 = .ok (.aload_n 0, 1) := by decide +kernel
theorem dX8_isDigit_10 : decode cX8_isDigit 10 = .ok (.invokevirtual 131, 3) := by decide +kernel
theorem dX8_isDigit_13 : decode cX8_isDigit 13 = .ok (.bipush 57, 2) := by decide +kernel
theorem dX8_isDigit_15 : decode cX8_isDigit 15 = .ok (.if_icmp .gt 7, 3) := by decide +kernel
theorem dX8_isDigit_18 : decode cX8_isDigit 18 = .ok (.iconst 1, 1) := by decide +kernel
theorem dX8_isDigit_19 : decode cX8_isDigit 19 = .ok (.goto 4, 3) := by decide +kernel
theorem dX8_isDigit_22 : decode cX8_isDigit 22 = .ok (.iconst 0, 1) := by decide +kernel
theorem dX8_isDigit_23 : decode cX8_isDigit 23 = .ok (.ireturn, 1) := by decide +kernel
set_option maxRecDepth 20000 in
theorem ggX8_digits_X8_isDigit : GoodIn wsX8_digits wsX8_isDigit := goodIn_r _ [6, 7, 8, 9, 5, 10, 1, 11, 12, 13, 14, 15, 16, 17, 18, 19, 20, 21, 22, 23, 24, 25, 26, 27, 28, 29, 30, 31, 32, 33, 34, 35, 36, 37, 38, 39, 40, 41, 42, 43, 44, 45, 46, 47, 48, 49, 50, 51, 52, 53, 54, 55] (by decide +kernel) (by decide +kernel)
set_option maxRecDepth 20000 in
theorem gX8_digits_X8_isDigit : GoodIn wsX8_digits (wsV RX8 135 RX8 yX8_isDigit wsX8_isDigit) := goodIn_app (goodIn_of _ (by decide +kernel)) ggX8_digits_X8_isDigit
set_option maxRecDepth 20000 in
theorem ggX8_digits_X8_sign : GoodIn wsX8_digits wsX8_sign := goodIn_r _ [10, 1, 11, 12, 13, 14, 15, 16, 17, 18, 19, 20, 21, 22, 23, 24, 25, 26, 27, 28, 29, 30, 31, 32, 33, 34, 35, 36, 37, 38, 39, 40, 41, 42, 43, 44, 45, 46, 47, 48, 49, 50, 51, 52, 53, 54, 55] (by decide +kernel) (by decide +kernel)
set_option maxRecDepth 20000 in
theorem gX8_digits_X8_sign : GoodIn wsX8_digits (wsV RX8 131 RX8 yX8_sign wsX8_sign) := goodIn_app (goodIn_of _ (by decide +kernel)) ggX8_digits_X8_sign
theorem dX8_digits_0 : decode cX8_digits 0 = .ok (.aload_n 0, 1) := by decide +kernel
theorem dX8_digits_1 : decode cX8_digits 1 = .ok (.invokevirtual 135, 3) := by decide +kernel
theorem dX8_digits_4 : decode cX8_digits 4 = .ok (.ifCond .ne 5, 3) := by decide +kernel
theorem dX8_digits_7 : decode cX8_digits 7 = .ok (.iconst (-1), 1) := by decide +kernel
theorem dX8_digits_8 : decode cX8_digits 8 = .ok (.ireturn, 1) := by decide +kernel
theorem dX8_digits_9 : decode cX8_digits 9 = .ok (.aload_n 0, 1) := by decide +kernel
theorem dX8_digits_10 : decode cX8_digits 10 = .ok (.invokevirtual 131, 3) := by decide +kernel
theorem dX8_digits_13 : decode cX8_digits 13 = .ok (.bipush 48, 2) := by decide +kernel
theorem dX8_digits_15 : decode cX8_digits 15 = .ok (.isub, 1) := by decide +kernel
theorem dX8_digits_16 : decode cX8_digits 16 = .ok (.istore_n 2, 1) := by decide +kernel
theorem dX8_digits_17 : decode cX8_digits 17 = .ok (.aload_n 0, 1) := by decide +kernel
theorem dX8_digits_18 : decode cX8_digits 18 = .ok (.dup, 1) := by decide +kernel
theorem dX8_digits_19 : decode cX8_digits 19 = .ok (.getfield 128, 3) := by decide +kernel
theorem dX8_digits_22 : decode cX8_digits 22 = .ok (.iconst 1, 1) := by decide +kernel
theorem dX8_digits_23 : decode cX8_digits 23 = .ok (.iadd, 1) := by decide +kernel
theorem dX8_digits_24 : decode cX8_digits 24 = .ok (.putfield 128, 3) := by decide +kernel
theorem dX8_digits_27 : decode cX8_digits 27 = .ok (.iconst 1, 1) := by decide +kernel
theorem dX8_digits_28 : decode cX8_digits 28 = .ok (.istore_n 3, 1) := by decide +kernel
theorem dX8_digits_29 : decode cX8_digits 29 = .ok (.iload_n 3, 1) := by decide +kernel
theorem dX8_digits_30 : decode cX8_digits 30 = .ok (.iload_n 1, 1) := by decide +kernel
theorem dX8_digits_31 : decode cX8_digits 31 = .ok (.if_icmp .ge 43, 3) := by decide +kernel
theorem dX8_digits_34 : decode cX8_digits 34 = .ok (.iload_n 2, 1) := by decide +kernel
theorem dX8_digits_35 : decode cX8_digits 35 = .ok (.ifCond .le 39, 3) := by decide +kernel
theorem dX8_digits_38 : decode cX8_digits 38 = .ok (.aload_n 0, 1) := by decide +kernel
theorem dX8_digits_39 : decode cX8_digits 39 = .ok (.invokevirtual 135, 3) := by decide +kernel
theorem dX8_digits_42 : decode cX8_digits 42 = .ok (.ifCond .eq 32, 3) := by decide +kernel
theorem dX8_digits_45 : decode cX8_digits 45 = .ok (.bipush 10, 2) := by decide +kernel
theorem dX8_digits_47 : decode cX8_digits 47 = .ok (.iload_n 2, 1) := by decide +kernel
theorem dX8_digits_48 : decode cX8_digits 48 = .ok (.imul, 1) := by decide +kernel
theorem dX8_digits_49 : decode cX8_digits 49 = .ok (.aload_n 0, 1) := by decide +kernel
theorem dX8_digits_50 : decode cX8_digits 50 = .ok (.invokevirtual 131, 3) := by decide +kernel
theorem dX8_digits_53 : decode cX8_digits 53 = .ok (.iadd, 1) := by decide +kernel
theorem dX8_digits_54 : decode cX8_digits 54 = .ok (.bipush 48, 2) := by decide +kernel
theorem dX8_digits_56 : decode cX8_digits 56 = .ok (.isub, 1) := by decide +kernel
theorem dX8_digits_57 : decode cX8_digits 57 = .ok (.istore_n 2, 1) := by decide +kernel
theorem dX8_digits_58 : decode cX8_digits 58 = .ok (.aload_n 0, 1) := by decide +kernel
theorem dX8_digits_59 : decode cX8_digits 59 = .ok (.dup, 1) := by decide +kernel
theorem dX8_digits_60 : decode cX8_digits 60 = .ok (.getfield 128, 3) := by decide +kernel
theorem dX8_digits_63 : decode cX8_digits 63 = .ok (.iconst 1, 1) := by decide +kernel
theorem dX8_digits_64 : decode cX8_digits 64 = .ok (.iadd, 1) := by decide +kernel
theorem dX8_digits_65 : decode cX8_digits 65 = .ok (.putfield 128, 3) := by decide +kernel
theorem dX8_digits_68 : decode cX8_digits 68 = .ok (.iinc 3 1, 3) := by decide +kernel
theorem dX8_digits_71 : decode cX8_digits 71 = .ok (.goto (-42), 3) := by decide +kernel
theorem dX8_digits_74 : decode cX8_digits 74 = .ok (.iload_n 2, 1) := by decide +kernel
theorem dX8_digits_75 : decode cX8_digits 75 = .ok (.ireturn, 1) := by decide +kernel
set_option maxRecDepth 20000 in
theorem ggX8_readsStep_X8_sign : GoodIn wsX8_readsStep wsX8_sign := goodIn_r _ [9, 1, 10, 11, 20, 21, 22, 23, 24, 25, 26, 27, 28, 29, 30, 31, 32, 33, 34, 35, 36, 37, 38, 39, 40, 41, 42, 43, 44, 45, 46, 47, 48, 49, 50, 51, 52, 53, 54, 55, 56, 57, 58, 59, 60, 61, 62] (by decide +kernel) (by decide +kernel)
set_option maxRecDepth 20000 in
theorem gX8_readsStep_X8_sign : GoodIn wsX8_readsStep (wsV RX8 131 RX8 yX8_sign wsX8_sign) := goodIn_app (goodIn_of _ (by decide +kernel)) ggX8_readsStep_X8_sign
set_option maxRecDepth 20000 in
theorem ggX8_readsStep_X8_isDigit : GoodIn wsX8_readsStep wsX8_isDigit := goodIn_r _ [15, 5, 6, 7, 8, 9, 1, 10, 11, 20, 21, 22, 23, 24, 25, 26, 27, 28, 29, 30, 31, 32, 33, 34, 35, 36, 37, 38, 39, 40, 41, 42, 43, 44, 45, 46, 47, 48, 49, 50, 51, 52, 53, 54, 55, 56, 57, 58, 59, 60, 61, 62] (by decide +kernel) (by decide +kernel)
set_option maxRecDepth 20000 in
theorem gX8_readsStep_X8_isDigit : GoodIn wsX8_readsStep (wsV RX8 135 RX8 yX8_isDigit wsX8_isDigit) := goodIn_app (goodIn_of _ (by decide +kernel)) ggX8_readsStep_X8_isDigit
set_option maxRecDepth 20000 in
theorem ggX8_readsStep_X8_digits : GoodIn wsX8_readsStep wsX8_digits := goodIn_r _ [19, 1, 12, 13, 14, 8, 15, 5, 6, 7, 9, 10, 11, 20, 21, 22, 23, 24, 25, 26, 27, 28, 29, 30, 31, 32, 33, 34, 35, 36, 37, 38, 39, 40, 41, 42, 43, 44, 45, 46, 47, 48, 49, 50, 51, 52, 53, 54, 55, 56, 57, 58, 59, 60, 61, 62] (by decide +kernel) (by decide +kernel)
set_option maxRecDepth 20000 in
theorem gX8_readsStep_X8_digits : GoodIn wsX8_readsStep (wsV RX8 139 RX8 yX8_digits wsX8_digits) := goodIn_app (goodIn_of _ (by decide +kernel)) ggX8_readsStep_X8_digits
theorem dX8_readsStep_0 : decode cX8_readsStep 0 = .ok (.aload_n 0, 1) := by decide +kernel
theorem dX8_readsStep_1 : decode cX8_readsStep 1 = .ok (.invokevirtual 131, 3) := by decide +kernel
theorem dX8_readsStep_4 : decode cX8_readsStep 4 = .ok (.istore_n 1, 1) := by decide +kernel
theorem dX8_readsStep_5 : decode cX8_readsStep 5 = .ok (.iconst 0, 1) := by decide +kernel
theorem dX8_readsStep_6 : decode cX8_readsStep 6 = .ok (.istore_n 2, 1) := by decide +kernel
theorem dX8_readsStep_7 : decode cX8_readsStep 7 = .ok (.iload_n 1, 1) := by decide +kernel
theorem dX8_readsStep_8 : decode cX8_readsStep 8 = .ok (.bipush 97, 2) := by decide +kernel
theorem dX8_readsStep_10 : decode cX8_readsStep 10 = .ok (.if_icmp .eq 51, 3) := by decide +kernel
theorem dX8_readsStep_13 : decode cX8_readsStep 13 = .ok (.iload_n 1, 1) := by decide +kernel
theorem dX8_readsStep_14 : decode cX8_readsStep 14 = .ok (.bipush 98, 2) := by decide +kernel
theorem dX8_readsStep_16 : decode cX8_readsStep 16 = .ok (.if_icmp .eq 45, 3) := by decide +kernel
theorem dX8_readsStep_19 : decode cX8_readsStep 19 = .ok (.iload_n 1, 1) := by decide +kernel
theorem dX8_readsStep_20 : decode cX8_readsStep 20 = .ok (.bipush 43, 2) := by decide +kernel
theorem dX8_readsStep_22 : decode cX8_readsStep 22 = .ok (.if_icmp .eq 39, 3) := by decide +kernel
theorem dX8_readsStep_25 : decode cX8_readsStep 25 = .ok (.iload_n 1, 1) := by decide +kernel
theorem dX8_readsStep_26 : decode cX8_readsStep 26 = .ok (.bipush 45, 2) := by decide +kernel
theorem dX8_readsStep_28 : decode cX8_readsStep 28 = .ok (.if_icmp .eq 33, 3) := by decide +kernel
theorem dX8_readsStep_31 : decode cX8_readsStep 31 = .ok (.iload_n 1, 1) := by decide +kernel
theorem dX8_readsStep_32 : decode cX8_readsStep 32 = .ok (.bipush 42, 2) := by decide +kernel
theorem dX8_readsStep_34 : decode cX8_readsStep 34 = .ok (.if_icmp .eq 27, 3) := by decide +kernel
theorem dX8_readsStep_37 : decode cX8_readsStep 37 = .ok (.iload_n 1, 1) := by decide +kernel
theorem dX8_readsStep_38 : decode cX8_readsStep 38 = .ok (.bipush 61, 2) := by decide +kernel
theorem dX8_readsStep_40 : decode cX8_readsStep 40 = .ok (.if_icmp .eq 21, 3) := by decide +kernel
theorem dX8_readsStep_43 : decode cX8_readsStep 43 = .ok (.iload_n 1, 1) := by decide +kernel
theorem dX8_readsStep_44 : decode cX8_readsStep 44 = .ok (.bipush 60, 2) := by decide +kernel
theorem dX8_readsStep_46 : decode cX8_readsStep 46 = .ok (.if_icmp .eq 15, 3) := by decide +kernel
theorem dX8_readsStep_49 : decode cX8_readsStep 49 = .ok (.iload_n 1, 1) := by decide +kernel
theorem dX8_readsStep_50 : decode cX8_readsStep 50 = .ok (.bipush 111, 2) := by decide +kernel
theorem dX8_readsStep_52 : decode cX8_readsStep 52 = .ok (.if_icmp .eq 9, 3) := by decide +kernel
theorem dX8_readsStep_55 : decode cX8_readsStep 55 = .ok (.iload_n 1, 1) := by decide +kernel
theorem dX8_readsStep_56 : decode cX8_readsStep 56 = .ok (.bipush 104, 2) := by decide +kernel
theorem dX8_readsStep_58 : decode cX8_readsStep 58 = .ok (.if_icmp .ne 7, 3) := by decide +kernel
theorem dX8_readsStep_61 : decode cX8_readsStep 61 = .ok (.iconst 1, 1) := by decide +kernel
theorem dX8_readsStep_62 : decode cX8_readsStep 62 = .ok (.goto 4, 3) := by decide +kernel
theorem dX8_readsStep_65 : decode cX8_readsStep 65 = .ok (.iconst 0, 1) := by decide +kernel
theorem dX8_readsStep_66 : decode cX8_readsStep 66 = .ok (.istore_n 3, 1) := by decide +kernel
theorem dX8_readsStep_67 : decode cX8_readsStep 67 = .ok (.iload_n 1, 1) := by decide +kernel
theorem dX8_readsStep_68 : decode cX8_readsStep 68 = .ok (.bipush 108, 2) := by decide +kernel
theorem dX8_readsStep_70 : decode cX8_readsStep 70 = .ok (.if_icmp .eq 9, 3) := by decide +kernel
theorem dX8_readsStep_73 : decode cX8_readsStep 73 = .ok (.iload_n 1, 1) := by decide +kernel
theorem dX8_readsStep_74 : decode cX8_readsStep 74 = .ok (.bipush 115, 2) := by decide +kernel
theorem dX8_readsStep_76 : decode cX8_readsStep 76 = .ok (.if_icmp .ne 7, 3) := by decide +kernel
theorem dX8_readsStep_79 : decode cX8_readsStep 79 = .ok (.iconst 1, 1) := by decide +kernel
theorem dX8_readsStep_80 : decode cX8_readsStep 80 = .ok (.goto 4, 3) := by decide +kernel
theorem dX8_readsStep_83 : decode cX8_readsStep 83 = .ok (.iconst 0, 1) := by decide +kernel
theorem dX8_readsStep_84 : decode cX8_readsStep 84 = .ok (.istore 4, 2) := by decide +kernel
theorem dX8_readsStep_86 : decode cX8_readsStep 86 = .ok (.iload_n 1, 1) := by decide +kernel
theorem dX8_readsStep_87 : decode cX8_readsStep 87 = .ok (.bipush 106, 2) := by decide +kernel
theorem dX8_readsStep_89 : decode cX8_readsStep 89 = .ok (.if_icmp .eq 9, 3) := by decide +kernel
theorem dX8_readsStep_92 : decode cX8_readsStep 92 = .ok (.iload_n 1, 1) := by decide +kernel
theorem dX8_readsStep_93 : decode cX8_readsStep 93 = .ok (.bipush 103, 2) := by decide +kernel
theorem dX8_readsStep_95 : decode cX8_readsStep 95 = .ok (.if_icmp .ne 7, 3) := by decide +kernel
theorem dX8_readsStep_98 : decode cX8_readsStep 98 = .ok (.iconst 1, 1) := by decide +kernel
theorem dX8_readsStep_99 : decode cX8_readsStep 99 = .ok (.goto 4, 3) := by decide +kernel
theorem dX8_readsStep_102 : decode cX8_readsStep 102 = .ok (.iconst 0, 1) := by decide +kernel
theorem dX8_readsStep_103 : decode cX8_readsStep 103 = .ok (.istore 5, 2) := by decide +kernel
theorem dX8_readsStep_105 : decode cX8_readsStep 105 = .ok (.iload_n 3, 1) := by decide +kernel
theorem dX8_readsStep_106 : decode cX8_readsStep 106 = .ok (.ifCond .ne 21, 3) := by decide +kernel
theorem dX8_readsStep_109 : decode cX8_readsStep 109 = .ok (.iload 4, 2) := by decide +kernel
theorem dX8_readsStep_111 : decode cX8_readsStep 111 = .ok (.ifCond .ne 16, 3) := by decide +kernel
theorem dX8_readsStep_114 : decode cX8_readsStep 114 = .ok (.iload 5, 2) := by decide +kernel
theorem dX8_readsStep_116 : decode cX8_readsStep 116 = .ok (.ifCond .ne 11, 3) := by decide +kernel
theorem dX8_readsStep_119 : decode cX8_readsStep 119 = .ok (.iload_n 1, 1) := by decide +kernel
theorem dX8_readsStep_120 : decode cX8_readsStep 120 = .ok (.bipush 112, 2) := by decide +kernel
theorem dX8_readsStep_122 : decode cX8_readsStep 122 = .ok (.if_icmp .eq 5, 3) := by decide +kernel
theorem dX8_readsStep_125 : decode cX8_readsStep 125 = .ok (.iconst 0, 1) := by decide +kernel
theorem dX8_readsStep_126 : decode cX8_readsStep 126 = .ok (.ireturn, 1) := by decide +kernel
theorem dX8_readsStep_127 : decode cX8_readsStep 127 = .ok (.aload_n 0, 1) := by decide +kernel
theorem dX8_readsStep_128 : decode cX8_readsStep 128 = .ok (.dup, 1) := by decide +kernel
theorem dX8_readsStep_129 : decode cX8_readsStep 129 = .ok (.getfield 128, 3) := by decide +kernel
theorem dX8_readsStep_132 : decode cX8_readsStep 132 = .ok (.iconst 1, 1) := by decide +kernel
theorem dX8_readsStep_133 : decode cX8_readsStep 133 = .ok (.iadd, 1) := by decide +kernel
theorem dX8_readsStep_134 : decode cX8_readsStep 134 = .ok (.putfield 128, 3) := by decide +kernel
theorem dX8_readsStep_137 : decode cX8_readsStep 137 = .ok (.iload 4, 2) := by decide +kernel
theorem dX8_readsStep_139 : decode cX8_readsStep 139 = .ok (.ifCond .eq 27, 3) := by decide +kernel
theorem dX8_readsStep_142 : decode cX8_readsStep 142 = .ok (.aload_n 0, 1) := by decide +kernel
theorem dX8_readsStep_143 : decode cX8_readsStep 143 = .ok (.invokevirtual 135, 3) := by decide +kernel
theorem dX8_readsStep_146 : decode cX8_readsStep 146 = .ok (.ifCond .eq 12, 3) := by decide +kernel
theorem dX8_readsStep_149 : decode cX8_readsStep 149 = .ok (.aload_n 0, 1) := by decide +kernel
theorem dX8_readsStep_150 : decode cX8_readsStep 150 = .ok (.invokevirtual 131, 3) := by decide +kernel
theorem dX8_readsStep_153 : decode cX8_readsStep 153 = .ok (.bipush 55, 2) := by decide +kernel
theorem dX8_readsStep_155 : decode cX8_readsStep 155 = .ok (.if_icmp .le 5, 3) := by decide +kernel
theorem dX8_readsStep_158 : decode cX8_readsStep 158 = .ok (.iconst 0, 1) := by decide +kernel
theorem dX8_readsStep_159 : decode cX8_readsStep 159 = .ok (.ireturn, 1) := by decide +kernel
theorem dX8_readsStep_160 : decode cX8_readsStep 160 = .ok (.aload_n 0, 1) := by decide +kernel
theorem dX8_readsStep_161 : decode cX8_readsStep 161 = .ok (.iconst 1, 1) := by decide +kernel
theorem dX8_readsStep_162 : decode cX8_readsStep 162 = .ok (.invokevirtual 139, 3) := by decide +kernel
theorem dX8_readsStep_165 : decode cX8_readsStep 165 = .ok (.istore_n 2, 1) := by decide +kernel
theorem dX8_readsStep_166 : decode cX8_readsStep 166 = .ok (.iload 5, 2) := by decide +kernel
theorem dX8_readsStep_168 : decode cX8_readsStep 168 = .ok (.ifCond .ne 9, 3) := by decide +kernel
theorem dX8_readsStep_171 : decode cX8_readsStep 171 = .ok (.iload_n 1, 1) := by decide +kernel
theorem dX8_readsStep_172 : decode cX8_readsStep 172 = .ok (.bipush 112, 2) := by decide +kernel
theorem dX8_readsStep_174 : decode cX8_readsStep 174 = .ok (.if_icmp .ne 24, 3) := by decide +kernel
theorem dX8_readsStep_177 : decode cX8_readsStep 177 = .ok (.aload_n 0, 1) := by decide +kernel
theorem dX8_readsStep_178 : decode cX8_readsStep 178 = .ok (.iload 5, 2) := by decide +kernel
theorem dX8_readsStep_180 : decode cX8_readsStep 180 = .ok (.ifCond .eq 7, 3) := by decide +kernel
theorem dX8_readsStep_183 : decode cX8_readsStep 183 = .ok (.iconst 2, 1) := by decide +kernel
theorem dX8_readsStep_184 : decode cX8_readsStep 184 = .ok (.goto 4, 3) := by decide +kernel
theorem dX8_readsStep_187 : decode cX8_readsStep 187 = .ok (.iconst 4, 1) := by decide +kernel
theorem dX8_readsStep_188 : decode cX8_readsStep 188 = .ok (.invokevirtual 139, 3) := by decide +kernel
theorem dX8_readsStep_191 : decode cX8_readsStep 191 = .ok (.istore_n 2, 1) := by decide +kernel
theorem dX8_readsStep_192 : decode cX8_readsStep 192 = .ok (.iload_n 2, 1) := by decide +kernel
theorem dX8_readsStep_193 : decode cX8_readsStep 193 = .ok (.ifCond .ge 5, 3) := by decide +kernel
theorem dX8_readsStep_196 : decode cX8_readsStep 196 = .ok (.iconst 0, 1) := by decide +kernel
theorem dX8_readsStep_197 : decode cX8_readsStep 197 = .ok (.ireturn, 1) := by decide +kernel
theorem dX8_readsStep_198 : decode cX8_readsStep 198 = .ok (.aload_n 0, 1) := by decide +kernel
theorem dX8_readsStep_199 : decode cX8_readsStep 199 = .ok (.getfield 26, 3) := by decide +kernel
theorem dX8_readsStep_202 : decode cX8_readsStep 202 = .ok (.aload_n 0, 1) := by decide +kernel
theorem dX8_readsStep_203 : decode cX8_readsStep 203 = .ok (.getfield 143, 3) := by decide +kernel
theorem dX8_readsStep_206 : decode cX8_readsStep 206 = .ok (.iload_n 1, 1) := by decide +kernel
theorem dX8_readsStep_207 : decode cX8_readsStep 207 = .ok (.iastore, 1) := by decide +kernel
theorem dX8_readsStep_208 : decode cX8_readsStep 208 = .ok (.aload_n 0, 1) := by decide +kernel
theorem dX8_readsStep_209 : decode cX8_readsStep 209 = .ok (.getfield 29, 3) := by decide +kernel
theorem dX8_readsStep_212 : decode cX8_readsStep 212 = .ok (.aload_n 0, 1) := by decide +kernel
theorem dX8_readsStep_213 : decode cX8_readsStep 213 = .ok (.getfield 143, 3) := by decide +kernel
theorem dX8_readsStep_216 : decode cX8_readsStep 216 = .ok (.iload_n 2, 1) := by decide +kernel
theorem dX8_readsStep_217 : decode cX8_readsStep 217 = .ok (.iastore, 1) := by decide +kernel
theorem dX8_readsStep_218 : decode cX8_readsStep 218 = .ok (.aload_n 0, 1) := by decide +kernel
theorem dX8_readsStep_219 : decode cX8_readsStep 219 = .ok (.dup, 1) := by decide +kernel
