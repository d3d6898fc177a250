theorem dX8_readsStep_220 : decode cX8_readsStep 220 = .ok (.getfield 143, 3) := by decide +kernel
theorem dX8_readsStep_223 : decode cX8_readsStep 223 = .ok (.iconst 1, 1) := by decide +kernel
theorem dX8_readsStep_224 : decode cX8_readsStep 224 = .ok (.iadd, 1) := by decide +kernel
theorem dX8_readsStep_225 : decode cX8_readsStep 225 = .ok (.putfield 143, 3) := by decide +kernel
theorem dX8_readsStep_228 : decode cX8_readsStep 228 = .ok (.iconst 1, 1) := by decide +kernel
theorem dX8_readsStep_229 : decode cX8_readsStep 229 = .ok (.ireturn, 1) := by decide +kernel
set_option maxRecDepth 20000 in
theorem ggX8_fault_X8_readsStep : GoodIn wsX8_fault wsX8_readsStep := goodIn_r _ [9, 1, 3, 2, 4, 10, 11, 12, 8, 13, 14, 15, 16, 17, 18, 19, 20, 21, 22, 23, 24, 25, 26, 27, 28, 29, 30, 31, 32, 33, 34, 35, 36, 37, 38, 39, 40, 41, 42, 43, 44, 45, 46, 47, 48, 49, 50, 51, 52, 53, 54, 55, 56, 57, 58, 59, 60, 61, 62, 63, 64, 65, 66] (by decide +kernel) (by decide +kernel)
set_option maxRecDepth 20000 in
theorem gX8_fault_X8_readsStep : GoodIn wsX8_fault (wsV RX8 146 RX8 yX8_readsStep wsX8_readsStep) := goodIn_app (goodIn_of _ (by decide +kernel)) ggX8_fault_X8_readsStep
set_option maxRecDepth 20000 in
theorem ggX8_fault_X8_sign : GoodIn wsX8_fault wsX8_sign := goodIn_r _ [13, 1, 14, 15, 24, 25, 26, 27, 28, 29, 30, 31, 32, 33, 34, 35, 36, 37, 38, 39, 40, 41, 42, 43, 44, 45, 46, 47, 48, 49, 50, 51, 52, 53, 54, 55, 56, 57, 58, 59, 60, 61, 62, 63, 64, 65, 66] (by decide +kernel) (by decide +kernel)
set_option maxRecDepth 20000 in
theorem gX8_fault_X8_sign : GoodIn wsX8_fault (wsV RX8 131 RX8 yX8_sign wsX8_sign) := goodIn_app (goodIn_of _ (by decide +kernel)) ggX8_fault_X8_sign
theorem dX8_fault_0 : decode cX8_fault 0 = .ok (.aload_n 0, 1) := by decide +kernel
theorem dX8_fault_1 : decode cX8_fault 1 = .ok (.iconst 0, 1) := by decide +kernel
theorem dX8_fault_2 : decode cX8_fault 2 = .ok (.putfield 128, 3) := by decide +kernel
theorem dX8_fault_5 : decode cX8_fault 5 = .ok (.aload_n 0, 1) := by decide +kernel
theorem dX8_fault_6 : decode cX8_fault 6 = .ok (.iconst 0, 1) := by decide +kernel
theorem dX8_fault_7 : decode cX8_fault 7 = .ok (.putfield 143, 3) := by decide +kernel
theorem dX8_fault_10 : decode cX8_fault 10 = .ok (.aload_n 0, 1) := by decide +kernel
theorem dX8_fault_11 : decode cX8_fault 11 = .ok (.invokevirtual 146, 3) := by decide +kernel
theorem dX8_fault_14 : decode cX8_fault 14 = .ok (.ifCond .ne 8, 3) := by decide +kernel
theorem dX8_fault_17 : decode cX8_fault 17 = .ok (.aload_n 0, 1) := by decide +kernel
theorem dX8_fault_18 : decode cX8_fault 18 = .ok (.getfield 128, 3) := by decide +kernel
theorem dX8_fault_21 : decode cX8_fault 21 = .ok (.ireturn, 1) := by decide +kernel
theorem dX8_fault_22 : decode cX8_fault 22 = .ok (.aload_n 0, 1) := by decide +kernel
theorem dX8_fault_23 : decode cX8_fault 23 = .ok (.invokevirtual 131, 3) := by decide +kernel
theorem dX8_fault_26 : decode cX8_fault 26 = .ok (.iconst (-1), 1) := by decide +kernel
theorem dX8_fault_27 : decode cX8_fault 27 = .ok (.if_icmp .ne 6, 3) := by decide +kernel
theorem dX8_fault_30 : decode cX8_fault 30 = .ok (.goto 39, 3) := by decide +kernel
theorem dX8_fault_33 : decode cX8_fault 33 = .ok (.aload_n 0, 1) := by decide +kernel
theorem dX8_fault_34 : decode cX8_fault 34 = .ok (.invokevirtual 131, 3) := by decide +kernel
theorem dX8_fault_37 : decode cX8_fault 37 = .ok (.bipush 59, 2) := by decide +kernel
theorem dX8_fault_39 : decode cX8_fault 39 = .ok (.if_icmp .ne 12, 3) := by decide +kernel
theorem dX8_fault_42 : decode cX8_fault 42 = .ok (.aload_n 0, 1) := by decide +kernel
theorem dX8_fault_43 : decode cX8_fault 43 = .ok (.getfield 143, 3) := by decide +kernel
theorem dX8_fault_46 : decode cX8_fault 46 = .ok (.bipush 24, 2) := by decide +kernel
theorem dX8_fault_48 : decode cX8_fault 48 = .ok (.if_icmp .ne 8, 3) := by decide +kernel
theorem dX8_fault_51 : decode cX8_fault 51 = .ok (.aload_n 0, 1) := by decide +kernel
theorem dX8_fault_52 : decode cX8_fault 52 = .ok (.getfield 128, 3) := by decide +kernel
theorem dX8_fault_55 : decode cX8_fault 55 = .ok (.ireturn, 1) := by decide +kernel
theorem dX8_fault_56 : decode cX8_fault 56 = .ok (.aload_n 0, 1) := by decide +kernel
theorem dX8_fault_57 : decode cX8_fault 57 = .ok (.dup, 1) := by decide +kernel
theorem dX8_fault_58 : decode cX8_fault 58 = .ok (.getfield 128, 3) := by decide +kernel
theorem dX8_fault_61 : decode cX8_fault 61 = .ok (.iconst 1, 1) := by decide +kernel
theorem dX8_fault_62 : decode cX8_fault 62 = .ok (.iadd, 1) := by decide +kernel
theorem dX8_fault_63 : decode cX8_fault 63 = .ok (.putfield 128, 3) := by decide +kernel
theorem dX8_fault_66 : decode cX8_fault 66 = .ok (.goto (-56), 3) := by decide +kernel
theorem dX8_fault_69 : decode cX8_fault 69 = .ok (.iconst 0, 1) := by decide +kernel
theorem dX8_fault_70 : decode cX8_fault 70 = .ok (.istore_n 1, 1) := by decide +kernel
theorem dX8_fault_71 : decode cX8_fault 71 = .ok (.iload_n 1, 1) := by decide +kernel
theorem dX8_fault_72 : decode cX8_fault 72 = .ok (.aload_n 0, 1) := by decide +kernel
theorem dX8_fault_73 : decode cX8_fault 73 = .ok (.getfield 143, 3) := by decide +kernel
theorem dX8_fault_76 : decode cX8_fault 76 = .ok (.if_icmp .ge 50, 3) := by decide +kernel
theorem dX8_fault_79 : decode cX8_fault 79 = .ok (.aload_n 0, 1) := by decide +kernel
theorem dX8_fault_80 : decode cX8_fault 80 = .ok (.getfield 26, 3) := by decide +kernel
theorem dX8_fault_83 : decode cX8_fault 83 = .ok (.iload_n 1, 1) := by decide +kernel
theorem dX8_fault_84 : decode cX8_fault 84 = .ok (.iaload, 1) := by decide +kernel
theorem dX8_fault_85 : decode cX8_fault 85 = .ok (.bipush 106, 2) := by decide +kernel
theorem dX8_fault_87 : decode cX8_fault 87 = .ok (.if_icmp .eq 14, 3) := by decide +kernel
theorem dX8_fault_90 : decode cX8_fault 90 = .ok (.aload_n 0, 1) := by decide +kernel
theorem dX8_fault_91 : decode cX8_fault 91 = .ok (.getfield 26, 3) := by decide +kernel
theorem dX8_fault_94 : decode cX8_fault 94 = .ok (.iload_n 1, 1) := by decide +kernel
theorem dX8_fault_95 : decode cX8_fault 95 = .ok (.iaload, 1) := by decide +kernel
theorem dX8_fault_96 : decode cX8_fault 96 = .ok (.bipush 103, 2) := by decide +kernel
theorem dX8_fault_98 : decode cX8_fault 98 = .ok (.if_icmp .ne 22, 3) := by decide +kernel
theorem dX8_fault_101 : decode cX8_fault 101 = .ok (.aload_n 0, 1) := by decide +kernel
theorem dX8_fault_102 : decode cX8_fault 102 = .ok (.getfield 29, 3) := by decide +kernel
theorem dX8_fault_105 : decode cX8_fault 105 = .ok (.iload_n 1, 1) := by decide +kernel
theorem dX8_fault_106 : decode cX8_fault 106 = .ok (.iaload, 1) := by decide +kernel
theorem dX8_fault_107 : decode cX8_fault 107 = .ok (.aload_n 0, 1) := by decide +kernel
theorem dX8_fault_108 : decode cX8_fault 108 = .ok (.getfield 143, 3) := by decide +kernel
theorem dX8_fault_111 : decode cX8_fault 111 = .ok (.if_icmp .lt 9, 3) := by decide +kernel
theorem dX8_fault_114 : decode cX8_fault 114 = .ok (.sipush 200, 3) := by decide +kernel
theorem dX8_fault_117 : decode cX8_fault 117 = .ok (.iload_n 1, 1) := by decide +kernel
theorem dX8_fault_118 : decode cX8_fault 118 = .ok (.iadd, 1) := by decide +kernel
theorem dX8_fault_119 : decode cX8_fault 119 = .ok (.ireturn, 1) := by decide +kernel
theorem dX8_fault_120 : decode cX8_fault 120 = .ok (.iinc 1 1, 3) := by decide +kernel
theorem dX8_fault_123 : decode cX8_fault 123 = .ok (.goto (-52), 3) := by decide +kernel
theorem dX8_fault_126 : decode cX8_fault 126 = .ok (.iconst (-1), 1) := by decide +kernel
theorem dX8_fault_127 : decode cX8_fault 127 = .ok (.ireturn, 1) := by decide +kernel
set_option maxRecDepth 20000 in
theorem ggX8_patch_X8_isPlace : GoodIn wsX8_patch wsX8_isPlace := goodIn_r _ [13, 14, 15, 16, 17, 12, 18, 19, 20, 21, 22, 45, 46, 47, 48, 49, 50, 51, 52, 53, 54, 55, 56, 57, 58, 59, 60, 61, 62, 63, 64, 65, 66, 67, 68, 69, 70, 71, 72, 73, 74, 75, 76, 77, 78, 79, 80, 81, 82, 83, 84, 85, 86, 87] (by decide +kernel) (by decide +kernel)
set_option maxRecDepth 20000 in
theorem gX8_patch_X8_isPlace : GoodIn wsX8_patch (wsV RX8 149 RX8 yX8_isPlace wsX8_isPlace) := goodIn_app (goodIn_of _ (by decide +kernel)) ggX8_patch_X8_isPlace
set_option maxRecDepth 20000 in
theorem ggX8_patch_X8_fault : GoodIn wsX8_patch wsX8_fault := goodIn_r _ [26, 27, 2, 4, 6, 28, 29, 30, 12, 31, 32, 33, 34, 35, 1, 36, 37, 38, 39, 40, 41, 42, 43, 44, 45, 46, 47, 48, 49, 50, 51, 52, 53, 54, 55, 56, 57, 58, 59, 60, 61, 62, 63, 64, 65, 66, 67, 68, 69, 70, 71, 72, 73, 74, 75, 76, 77, 78, 79, 80, 81, 82, 83, 84, 85, 86, 87] (by decide +kernel) (by decide +kernel)
set_option maxRecDepth 20000 in
theorem gX8_patch_X8_fault : GoodIn wsX8_patch (wsV RX8 153 RX8 yX8_fault wsX8_fault) := goodIn_app (goodIn_of _ (by decide +kernel)) ggX8_patch_X8_fault
theorem dX8_patch_0 : decode cX8_patch 0 = .ok (.aload_n 0, 1) := by decide +kernel
theorem dX8_patch_1 : decode cX8_patch 1 = .ok (.iload_n 1, 1) := by decide +kernel
theorem dX8_patch_2 : decode cX8_patch 2 = .ok (.iload_n 2, 1) := by decide +kernel
theorem dX8_patch_3 : decode cX8_patch 3 = .ok (.invokevirtual 149, 3) := by decide +kernel
theorem dX8_patch_6 : decode cX8_patch 6 = .ok (.ifCond .ne 5, 3) := by decide +kernel
theorem dX8_patch_9 : decode cX8_patch 9 = .ok (.iconst (-1), 1) := by decide +kernel
theorem dX8_patch_10 : decode cX8_patch 10 = .ok (.ireturn, 1) := by decide +kernel
theorem dX8_patch_11 : decode cX8_patch 11 = .ok (.iconst 3, 1) := by decide +kernel
theorem dX8_patch_12 : decode cX8_patch 12 = .ok (.iload_n 1, 1) := by decide +kernel
theorem dX8_patch_13 : decode cX8_patch 13 = .ok (.imul, 1) := by decide +kernel
theorem dX8_patch_14 : decode cX8_patch 14 = .ok (.iload_n 2, 1) := by decide +kernel
theorem dX8_patch_15 : decode cX8_patch 15 = .ok (.iadd, 1) := by decide +kernel
theorem dX8_patch_16 : decode cX8_patch 16 = .ok (.istore_n 3, 1) := by decide +kernel
theorem dX8_patch_17 : decode cX8_patch 17 = .ok (.aload_n 0, 1) := by decide +kernel
theorem dX8_patch_18 : decode cX8_patch 18 = .ok (.invokevirtual 153, 3) := by decide +kernel
theorem dX8_patch_21 : decode cX8_patch 21 = .ok (.istore 4, 2) := by decide +kernel
theorem dX8_patch_23 : decode cX8_patch 23 = .ok (.aload_n 0, 1) := by decide +kernel
theorem dX8_patch_24 : decode cX8_patch 24 = .ok (.iconst 0, 1) := by decide +kernel
theorem dX8_patch_25 : decode cX8_patch 25 = .ok (.putfield 123, 3) := by decide +kernel
theorem dX8_patch_28 : decode cX8_patch 28 = .ok (.iload 4, 2) := by decide +kernel
theorem dX8_patch_30 : decode cX8_patch 30 = .ok (.ifCond .lt 9, 3) := by decide +kernel
theorem dX8_patch_33 : decode cX8_patch 33 = .ok (.bipush (-10), 2) := by decide +kernel
theorem dX8_patch_35 : decode cX8_patch 35 = .ok (.iload 4, 2) := by decide +kernel
theorem dX8_patch_37 : decode cX8_patch 37 = .ok (.isub, 1) := by decide +kernel
theorem dX8_patch_38 : decode cX8_patch 38 = .ok (.ireturn, 1) := by decide +kernel
theorem dX8_patch_39 : decode cX8_patch 39 = .ok (.iconst 0, 1) := by decide +kernel
theorem dX8_patch_40 : decode cX8_patch 40 = .ok (.istore 5, 2) := by decide +kernel
theorem dX8_patch_42 : decode cX8_patch 42 = .ok (.iload 5, 2) := by decide +kernel
theorem dX8_patch_44 : decode cX8_patch 44 = .ok (.aload_n 0, 1) := by decide +kernel
theorem dX8_patch_45 : decode cX8_patch 45 = .ok (.getfield 143, 3) := by decide +kernel
theorem dX8_patch_48 : decode cX8_patch 48 = .ok (.if_icmp .ge 53, 3) := by decide +kernel
theorem dX8_patch_51 : decode cX8_patch 51 = .ok (.aload_n 0, 1) := by decide +kernel
theorem dX8_patch_52 : decode cX8_patch 52 = .ok (.getfield 13, 3) := by decide +kernel
theorem dX8_patch_55 : decode cX8_patch 55 = .ok (.bipush 24, 2) := by decide +kernel
theorem dX8_patch_57 : decode cX8_patch 57 = .ok (.iload_n 3, 1) := by decide +kernel
theorem dX8_patch_58 : decode cX8_patch 58 = .ok (.bipush 15, 2) := by decide +kernel
theorem dX8_patch_60 : decode cX8_patch 60 = .ok (.iadd, 1) := by decide +kernel
theorem dX8_patch_61 : decode cX8_patch 61 = .ok (.imul, 1) := by decide +kernel
theorem dX8_patch_62 : decode cX8_patch 62 = .ok (.iload 5, 2) := by decide +kernel
theorem dX8_patch_64 : decode cX8_patch 64 = .ok (.iadd, 1) := by decide +kernel
theorem dX8_patch_65 : decode cX8_patch 65 = .ok (.aload_n 0, 1) := by decide +kernel
theorem dX8_patch_66 : decode cX8_patch 66 = .ok (.getfield 26, 3) := by decide +kernel
theorem dX8_patch_69 : decode cX8_patch 69 = .ok (.iload 5, 2) := by decide +kernel
theorem dX8_patch_71 : decode cX8_patch 71 = .ok (.iaload, 1) := by decide +kernel
theorem dX8_patch_72 : decode cX8_patch 72 = .ok (.iastore, 1) := by decide +kernel
theorem dX8_patch_73 : decode cX8_patch 73 = .ok (.aload_n 0, 1) := by decide +kernel
theorem dX8_patch_74 : decode cX8_patch 74 = .ok (.getfield 16, 3) := by decide +kernel
theorem dX8_patch_77 : decode cX8_patch 77 = .ok (.bipush 24, 2) := by decide +kernel
theorem dX8_patch_79 : decode cX8_patch 79 = .ok (.iload_n 3, 1) := by decide +kernel
theorem dX8_patch_80 : decode cX8_patch 80 = .ok (.bipush 15, 2) := by decide +kernel
theorem dX8_patch_82 : decode cX8_patch 82 = .ok (.iadd, 1) := by decide +kernel
theorem dX8_patch_83 : decode cX8_patch 83 = .ok (.imul, 1) := by decide +kernel
theorem dX8_patch_84 : decode cX8_patch 84 = .ok (.iload 5, 2) := by decide +kernel
theorem dX8_patch_86 : decode cX8_patch 86 = .ok (.iadd, 1) := by decide +kernel
theorem dX8_patch_87 : decode cX8_patch 87 = .ok (.aload_n 0, 1) := by decide +kernel
theorem dX8_patch_88 : decode cX8_patch 88 = .ok (.getfield 29, 3) := by decide +kernel
theorem dX8_patch_91 : decode cX8_patch 91 = .ok (.iload 5, 2) := by decide +kernel
theorem dX8_patch_93 : decode cX8_patch 93 = .ok (.iaload, 1) := by decide +kernel
theorem dX8_patch_94 : decode cX8_patch 94 = .ok (.iastore, 1) := by decide +kernel
theorem dX8_patch_95 : decode cX8_patch 95 = .ok (.iinc 5 1, 3) := by decide +kernel
theorem dX8_patch_98 : decode cX8_patch 98 = .ok (.goto (-56), 3) := by decide +kernel
theorem dX8_patch_101 : decode cX8_patch 101 = .ok (.aload_n 0, 1) := by decide +kernel
theorem dX8_patch_102 : decode cX8_patch 102 = .ok (.getfield 19, 3) := by decide +kernel
theorem dX8_patch_105 : decode cX8_patch 105 = .ok (.iload_n 3, 1) := by decide +kernel
theorem dX8_patch_106 : decode cX8_patch 106 = .ok (.bipush 15, 2) := by decide +kernel
theorem dX8_patch_108 : decode cX8_patch 108 = .ok (.iadd, 1) := by decide +kernel
theorem dX8_patch_109 : decode cX8_patch 109 = .ok (.aload_n 0, 1) := by decide +kernel
theorem dX8_patch_110 : decode cX8_patch 110 = .ok (.getfield 143, 3) := by decide +kernel
theorem dX8_patch_113 : decode cX8_patch 113 = .ok (.iastore, 1) := by decide +kernel
theorem dX8_patch_114 : decode cX8_patch 114 = .ok (.aload_n 0, 1) := by decide +kernel
theorem dX8_patch_115 : decode cX8_patch 115 = .ok (.getfield 22, 3) := by decide +kernel
theorem dX8_patch_118 : decode cX8_patch 118 = .ok (.iload_n 3, 1) := by decide +kernel
theorem dX8_patch_119 : decode cX8_patch 119 = .ok (.iconst 1, 1) := by decide +kernel
theorem dX8_patch_120 : decode cX8_patch 120 = .ok (.bastore, 1) := by decide +kernel
theorem dX8_patch_121 : decode cX8_patch 121 = .ok (.aload_n 0, 1) := by decide +kernel
theorem dX8_patch_122 : decode cX8_patch 122 = .ok (.getfield 143, 3) := by decide +kernel
theorem dX8_patch_125 : decode cX8_patch 125 = .ok (.ireturn, 1) := by decide +kernel
set_option maxRecDepth 20000 in
theorem ggX8_unpatch_X8_isPlace : GoodIn wsX8_unpatch wsX8_isPlace := goodIn_r _ [7, 8, 9, 10, 11, 6, 12, 13, 14, 15, 16, 17, 18, 19, 20, 21, 22, 23, 24, 25, 26, 27, 28, 29, 30, 31, 32, 33, 34, 35, 36, 37, 38, 39, 40, 41, 42, 43, 44, 45, 46, 47, 48, 49, 50, 51, 52, 53, 54, 55, 56, 57, 58, 59] (by decide +kernel) (by decide +kernel)
set_option maxRecDepth 20000 in
theorem gX8_unpatch_X8_isPlace : GoodIn wsX8_unpatch (wsV RX8 149 RX8 yX8_isPlace wsX8_isPlace) := goodIn_app (goodIn_of _ (by decide +kernel)) ggX8_unpatch_X8_isPlace
theorem dX8_unpatch_0 : decode cX8_unpatch 0 = .ok (.aload_n 0, 1) := by decide +kernel
theorem dX8_unpatch_1 : decode cX8_unpatch 1 = .ok (.iload_n 1, 1) := by decide +kernel
theorem dX8_unpatch_2 : decode cX8_unpatch 2 = .ok (.iload_n 2, 1) := by decide +kernel
theorem dX8_unpatch_3 : decode cX8_unpatch 3 = .ok (.invokevirtual 149, 3) := by decide +kernel
theorem dX8_unpatch_6 : decode cX8_unpatch 6 = .ok (.ifCond .ne 5, 3) := by decide +kernel
theorem dX8_unpatch_9 : decode cX8_unpatch 9 = .ok (.iconst (-1), 1) := by decide +kernel
theorem dX8_unpatch_10 : decode cX8_unpatch 10 = .ok (.ireturn, 1) := by decide +kernel
theorem dX8_unpatch_11 : decode cX8_unpatch 11 = .ok (.iconst 3, 1) := by decide +kernel
theorem dX8_unpatch_12 : decode cX8_unpatch 12 = .ok (.iload_n 1, 1) := by decide +kernel
theorem dX8_unpatch_13 : decode cX8_unpatch 13 = .ok (.imul, 1) := by decide +kernel
theorem dX8_unpatch_14 : decode cX8_unpatch 14 = .ok (.iload_n 2, 1) := by decide +kernel
theorem dX8_unpatch_15 : decode cX8_unpatch 15 = .ok (.iadd, 1) := by decide +kernel
theorem dX8_unpatch_16 : decode cX8_unpatch 16 = .ok (.istore_n 3, 1) := by decide +kernel
theorem dX8_unpatch_17 : decode cX8_unpatch 17 = .ok (.aload_n 0, 1) := by decide +kernel
theorem dX8_unpatch_18 : decode cX8_unpatch 18 = .ok (.getfield 22, 3) := by decide +kernel
theorem dX8_unpatch_21 : decode cX8_unpatch 21 = .ok (.iload_n 3, 1) := by decide +kernel
theorem dX8_unpatch_22 : decode cX8_unpatch 22 = .ok (.baload, 1) := by decide +kernel
theorem dX8_unpatch_23 : decode cX8_unpatch 23 = .ok (.ifCond .ne 6, 3) := by decide +kernel
theorem dX8_unpatch_26 : decode cX8_unpatch 26 = .ok (.bipush (-3), 2) := by decide +kernel
theorem dX8_unpatch_28 : decode cX8_unpatch 28 = .ok (.ireturn, 1) := by decide +kernel
theorem dX8_unpatch_29 : decode cX8_unpatch 29 = .ok (.aload_n 0, 1) := by decide +kernel
theorem dX8_unpatch_30 : decode cX8_unpatch 30 = .ok (.getfield 22, 3) := by decide +kernel
theorem dX8_unpatch_33 : decode cX8_unpatch 33 = .ok (.iload_n 3, 1) := by decide +kernel
theorem dX8_unpatch_34 : decode cX8_unpatch 34 = .ok (.iconst 0, 1) := by decide +kernel
theorem dX8_unpatch_35 : decode cX8_unpatch 35 = .ok (.bastore, 1) := by decide +kernel
theorem dX8_unpatch_36 : decode cX8_unpatch 36 = .ok (.aload_n 0, 1) := by decide +kernel
theorem dX8_unpatch_37 : decode cX8_unpatch 37 = .ok (.getfield 19, 3) := by decide +kernel
theorem dX8_unpatch_40 : decode cX8_unpatch 40 = .ok (.iload_n 3, 1) := by decide +kernel
theorem dX8_unpatch_41 : decode cX8_unpatch 41 = .ok (.bipush 15, 2) := by decide +kernel
theorem dX8_unpatch_43 : decode cX8_unpatch 43 = .ok (.iadd, 1) := by decide +kernel
theorem dX8_unpatch_44 : decode cX8_unpatch 44 = .ok (.iaload, 1) := by decide +kernel
theorem dX8_unpatch_45 : decode cX8_unpatch 45 = .ok (.ireturn, 1) := by decide +kernel
set_option maxRecDepth 20000 in
theorem ggX8_cell_X8_isPlace : GoodIn wsX8_cell wsX8_isPlace := goodIn_r _ [7, 8, 9, 10, 11, 6, 12, 13, 14, 15, 16, 17, 18, 19, 20, 21, 22, 23, 24, 25, 26, 27, 28, 29, 30, 31, 32, 33, 34, 35, 36, 37, 38, 39, 40, 41, 42, 43, 44, 45, 46, 47, 48, 49, 50, 51, 52, 53, 54, 55, 56, 57, 58, 59] (by decide +kernel) (by decide +kernel)
set_option maxRecDepth 20000 in
theorem gX8_cell_X8_isPlace : GoodIn wsX8_cell (wsV RX8 149 RX8 yX8_isPlace wsX8_isPlace) := goodIn_app (goodIn_of _ (by decide +kernel)) ggX8_cell_X8_isPlace
set_option maxRecDepth 20000 in
theorem ggX8_cell_X8_isIn : GoodIn wsX8_cell wsX8_isIn := goodIn_r _ [16] (by decide +kernel) (by decide +kernel)
set_option maxRecDepth 20000 in
theorem gX8_cell_X8_isIn : GoodIn wsX8_cell (va_wsS RX8 114 yX8_isIn wsX8_isIn) := goodIn_app (goodIn_of _ (by decide +kernel)) ggX8_cell_X8_isIn
theorem dX8_cell_0 : decode cX8_cell 0 = .ok (.aload_n 0, 1) := by decide +kernel
theorem dX8_cell_1 : decode cX8_cell 1 = .ok (.iload_n 1, 1) := by decide +kernel
theorem dX8_cell_2 : decode cX8_cell 2 = .ok (.iload_n 2, 1) := by decide +kernel
theorem dX8_cell_3 : decode cX8_cell 3 = .ok (.invokevirtual 149, 3) := by decide +kernel
theorem dX8_cell_6 : decode cX8_cell 6 = .ok (.ifCond .eq 33, 3) := by decide +kernel
theorem dX8_cell_9 : decode cX8_cell 9 = .ok (.iload_n 3, 1) := by decide +kernel
theorem dX8_cell_10 : decode cX8_cell 10 = .ok (.i2l, 1) := by decide +kernel
theorem dX8_cell_11 : decode cX8_cell 11 = .ok (.lconst 0, 1) := by decide +kernel
theorem dX8_cell_12 : decode cX8_cell 12 = .ok (.ldc2_w 156, 3) := by decide +kernel
theorem dX8_cell_15 : decode cX8_cell 15 = .ok (.invokestatic 114, 3) := by decide +kernel
theorem dX8_cell_18 : decode cX8_cell 18 = .ok (.ifCond .eq 21, 3) := by decide +kernel
theorem dX8_cell_21 : decode cX8_cell 21 = .ok (.aload_n 0, 1) := by decide +kernel
theorem dX8_cell_22 : decode cX8_cell 22 = .ok (.getfield 32, 3) := by decide +kernel
theorem dX8_cell_25 : decode cX8_cell 25 = .ok (.bipush 8, 2) := by decide +kernel
theorem dX8_cell_27 : decode cX8_cell 27 = .ok (.iconst 3, 1) := by decide +kernel
theorem dX8_cell_28 : decode cX8_cell 28 = .ok (.iload_n 1, 1) := by decide +kernel
theorem dX8_cell_29 : decode cX8_cell 29 = .ok (.imul, 1) := by decide +kernel
theorem dX8_cell_30 : decode cX8_cell 30 = .ok (.iload_n 2, 1) := by decide +kernel
theorem dX8_cell_31 : decode cX8_cell 31 = .ok (.iadd, 1) := by decide +kernel
theorem dX8_cell_32 : decode cX8_cell 32 = .ok (.imul, 1) := by decide +kernel
theorem dX8_cell_33 : decode cX8_cell 33 = .ok (.iload_n 3, 1) := by decide +kernel
theorem dX8_cell_34 : decode cX8_cell 34 = .ok (.iadd, 1) := by decide +kernel
theorem dX8_cell_35 : decode cX8_cell 35 = .ok (.iaload, 1) := by decide +kernel
theorem dX8_cell_36 : decode cX8_cell 36 = .ok (.goto 4, 3) := by decide +kernel
theorem dX8_cell_39 : decode cX8_cell 39 = .ok (.iconst (-1), 1) := by decide +kernel
theorem dX8_cell_40 : decode cX8_cell 40 = .ok (.ireturn, 1) := by decide +kernel
set_option maxRecDepth 20000 in
theorem ggX8_about_X8_isPlace : GoodIn wsX8_about wsX8_isPlace := goodIn_r _ [10, 11, 12, 13, 14, 9, 15, 16, 17, 18, 19, 20, 21, 22, 23, 24, 25, 26, 27, 28, 29, 30, 31, 32, 33, 34, 35, 36, 37, 38, 39, 40, 41, 42, 43, 44, 45, 46, 47, 48, 49, 50, 51, 52, 53, 54, 55, 56, 57, 58, 59, 60, 61, 62] (by decide +kernel) (by decide +kernel)
set_option maxRecDepth 20000 in
theorem gX8_about_X8_isPlace : GoodIn wsX8_about (wsV RX8 149 RX8 yX8_isPlace wsX8_isPlace) := goodIn_app (goodIn_of _ (by decide +kernel)) ggX8_about_X8_isPlace
theorem dX8_about_0 : decode cX8_about 0 = .ok (.aload_n 0, 1) := by decide +kernel
theorem dX8_about_1 : decode cX8_about 1 = .ok (.iload_n 1, 1) := by decide +kernel
theorem dX8_about_2 : decode cX8_about 2 = .ok (.iload_n 2, 1) := by decide +kernel
theorem dX8_about_3 : decode cX8_about 3 = .ok (.invokevirtual 149, 3) := by decide +kernel
theorem dX8_about_6 : decode cX8_about 6 = .ok (.ifCond .ne 5, 3) := by decide +kernel
theorem dX8_about_9 : decode cX8_about 9 = .ok (.iconst (-1), 1) := by decide +kernel
theorem dX8_about_10 : decode cX8_about 10 = .ok (.ireturn, 1) := by decide +kernel
theorem dX8_about_11 : decode cX8_about 11 = .ok (.iconst 3, 1) := by decide +kernel
theorem dX8_about_12 : decode cX8_about 12 = .ok (.iload_n 1, 1) := by decide +kernel
theorem dX8_about_13 : decode cX8_about 13 = .ok (.imul, 1) := by decide +kernel
theorem dX8_about_14 : decode cX8_about 14 = .ok (.iload_n 2, 1) := by decide +kernel
theorem dX8_about_15 : decode cX8_about 15 = .ok (.iadd, 1) := by decide +kernel
theorem dX8_about_16 : decode cX8_about 16 = .ok (.istore 4, 2) := by decide +kernel
theorem dX8_about_18 : decode cX8_about 18 = .ok (.iload_n 3, 1) := by decide +kernel
theorem dX8_about_19 : decode cX8_about 19 = .ok (.tableswitch 81 0 4 #[33, 41, 57, 65, 73], 33) := by decide +kernel
theorem dX8_about_52 : decode cX8_about 52 = .ok (.aload_n 0, 1) := by decide +kernel
theorem dX8_about_53 : decode cX8_about 53 = .ok (.getfield 19, 3) := by decide +kernel
theorem dX8_about_56 : decode cX8_about 56 = .ok (.iload 4, 2) := by decide +kernel
theorem dX8_about_58 : decode cX8_about 58 = .ok (.iaload, 1) := by decide +kernel
theorem dX8_about_59 : decode cX8_about 59 = .ok (.ireturn, 1) := by decide +kernel
theorem dX8_about_60 : decode cX8_about 60 = .ok (.aload_n 0, 1) := by decide +kernel
theorem dX8_about_61 : decode cX8_about 61 = .ok (.getfield 22, 3) := by decide +kernel
theorem dX8_about_64 : decode cX8_about 64 = .ok (.iload 4, 2) := by decide +kernel
theorem dX8_about_66 : decode cX8_about 66 = .ok (.baload, 1) := by decide +kernel
theorem dX8_about_67 : decode cX8_about 67 = .ok (.ifCond .eq 7, 3) := by decide +kernel
theorem dX8_about_70 : decode cX8_about 70 = .ok (.iconst 1, 1) := by decide +kernel
theorem dX8_about_71 : decode cX8_about 71 = .ok (.goto 4, 3) := by decide +kernel
theorem dX8_about_74 : decode cX8_about 74 = .ok (.iconst 0, 1) := by decide +kernel
theorem dX8_about_75 : decode cX8_about 75 = .ok (.ireturn, 1) := by decide +kernel
theorem dX8_about_76 : decode cX8_about 76 = .ok (.aload_n 0, 1) := by decide +kernel
theorem dX8_about_77 : decode cX8_about 77 = .ok (.getfield 44, 3) := by decide +kernel
theorem dX8_about_80 : decode cX8_about 80 = .ok (.iload 4, 2) := by decide +kernel
theorem dX8_about_82 : decode cX8_about 82 = .ok (.iaload, 1) := by decide +kernel
theorem dX8_about_83 : decode cX8_about 83 = .ok (.ireturn, 1) := by decide +kernel
theorem dX8_about_84 : decode cX8_about 84 = .ok (.aload_n 0, 1) := by decide +kernel
theorem dX8_about_85 : decode cX8_about 85 = .ok (.getfield 38, 3) := by decide +kernel
theorem dX8_about_88 : decode cX8_about 88 = .ok (.iload 4, 2) := by decide +kernel
theorem dX8_about_90 : decode cX8_about 90 = .ok (.iaload, 1) := by decide +kernel
theorem dX8_about_91 : decode cX8_about 91 = .ok (.ireturn, 1) := by decide +kernel
theorem dX8_about_92 : decode cX8_about 92 = .ok (.aload_n 0, 1) := by decide +kernel
theorem dX8_about_93 : decode cX8_about 93 = .ok (.getfield 41, 3) := by decide +kernel
theorem dX8_about_96 : decode cX8_about 96 = .ok (.iload 4, 2) := by decide +kernel
theorem dX8_about_98 : decode cX8_about 98 = .ok (.iaload, 1) := by decide +kernel
theorem dX8_about_99 : decode cX8_about 99 = .ok (.ireturn, 1) := by decide +kernel
theorem dX8_about_100 : decode cX8_about 100 = .ok (.iconst (-1), 1) := by decide +kernel
theorem dX8_about_101 : decode cX8_about 101 = .ok (.ireturn, 1) := by decide +kernel
set_option maxRecDepth 20000 in
theorem ggX8_isSet_X8_isIn : GoodIn wsX8_isSet wsX8_isIn := goodIn_r _ [9] (by decide +kernel) (by decide +kernel)
set_option maxRecDepth 20000 in
theorem gX8_isSet_X8_isIn : GoodIn wsX8_isSet (va_wsS RX8 114 yX8_isIn wsX8_isIn) := goodIn_app (goodIn_of _ (by decide +kernel)) ggX8_isSet_X8_isIn
theorem dX8_isSet_0 : decode cX8_isSet 0 = .ok (.iload_n 0, 1) := by decide +kernel
theorem dX8_isSet_1 : decode cX8_isSet 1 = .ok (.tableswitch 71 0 3 #[31, 41, 51, 61], 31) := by decide +kernel
theorem dX8_isSet_32 : decode cX8_isSet 32 = .ok (.iload_n 1, 1) := by decide +kernel
theorem dX8_isSet_33 : decode cX8_isSet 33 = .ok (.i2l, 1) := by decide +kernel
theorem dX8_isSet_34 : decode cX8_isSet 34 = .ok (.lconst 1, 1) := by decide +kernel
theorem dX8_isSet_35 : decode cX8_isSet 35 = .ok (.ldc2_w 158, 3) := by decide +kernel
theorem dX8_isSet_38 : decode cX8_isSet 38 = .ok (.invokestatic 114, 3) := by decide +kernel
theorem dX8_isSet_41 : decode cX8_isSet 41 = .ok (.ireturn, 1) := by decide +kernel
theorem dX8_isSet_42 : decode cX8_isSet 42 = .ok (.iload_n 1, 1) := by decide +kernel
theorem dX8_isSet_43 : decode cX8_isSet 43 = .ok (.i2l, 1) := by decide +kernel
theorem dX8_isSet_44 : decode cX8_isSet 44 = .ok (.lconst 0, 1) := by decide +kernel
theorem dX8_isSet_45 : decode cX8_isSet 45 = .ok (.ldc2_w 160, 3) := by decide +kernel
theorem dX8_isSet_48 : decode cX8_isSet 48 = .ok (.invokestatic 114, 3) := by decide +kernel
theorem dX8_isSet_51 : decode cX8_isSet 51 = .ok (.ireturn, 1) := by decide +kernel
theorem dX8_isSet_52 : decode cX8_isSet 52 = .ok (.iload_n 1, 1) := by decide +kernel
theorem dX8_isSet_53 : decode cX8_isSet 53 = .ok (.i2l, 1) := by decide +kernel
theorem dX8_isSet_54 : decode cX8_isSet 54 = .ok (.lconst 1, 1) := by decide +kernel
theorem dX8_isSet_55 : decode cX8_isSet 55 = .ok (.ldc2_w 162, 3) := by decide +kernel
theorem dX8_isSet_58 : decode cX8_isSet 58 = .ok (.invokestatic 114, 3) := by decide +kernel
theorem dX8_isSet_61 : decode cX8_isSet 61 = .ok (.ireturn, 1) := by decide +kernel
theorem dX8_isSet_62 : decode cX8_isSet 62 = .ok (.iload_n 1, 1) := by decide +kernel
theorem dX8_isSet_63 : decode cX8_isSet 63 = .ok (.i2l, 1) := by decide +kernel
theorem dX8_isSet_64 : decode cX8_isSet 64 = .ok (.lconst 0, 1) := by decide +kernel
theorem dX8_isSet_65 : decode cX8_isSet 65 = .ok (.ldc2_w 164, 3) := by decide +kernel
theorem dX8_isSet_68 : decode cX8_isSet 68 = .ok (.invokestatic 114, 3) := by decide +kernel
theorem dX8_isSet_71 : decode cX8_isSet 71 = .ok (.ireturn, 1) := by decide +kernel
theorem dX8_isSet_72 : decode cX8_isSet 72 = .ok (.iload_n 1, 1) := by decide +kernel
theorem dX8_isSet_73 : decode cX8_isSet 73 = .ok (.i2l, 1) := by decide +kernel
theorem dX8_isSet_74 : decode cX8_isSet 74 = .ok (.lconst 0, 1) := by decide +kernel
theorem dX8_isSet_75 : decode cX8_isSet 75 = .ok (.ldc2_w 166, 3) := by decide +kernel
theorem dX8_isSet_78 : decode cX8_isSet 78 = .ok (.invokestatic 114, 3) := by decide +kernel
theorem dX8_isSet_81 : decode cX8_isSet 81 = .ok (.ireturn, 1) := by decide +kernel
set_option maxRecDepth 20000 in
theorem ggX8_set_X8_isIn : GoodIn wsX8_set wsX8_isIn := goodIn_r _ [7] (by decide +kernel) (by decide +kernel)
set_option maxRecDepth 20000 in
theorem gX8_set_X8_isIn : GoodIn wsX8_set (va_wsS RX8 114 yX8_isIn wsX8_isIn) := goodIn_app (goodIn_of _ (by decide +kernel)) ggX8_set_X8_isIn
set_option maxRecDepth 20000 in
theorem ggX8_set_X8_isSet : GoodIn wsX8_set wsX8_isSet := goodIn_r _ [10, 11, 12, 13, 14, 15, 4, 5, 6, 7] (by decide +kernel) (by decide +kernel)
set_option maxRecDepth 20000 in
theorem gX8_set_X8_isSet : GoodIn wsX8_set (va_wsS RX8 170 yX8_isSet wsX8_isSet) := goodIn_app (goodIn_of _ (by decide +kernel)) ggX8_set_X8_isSet
theorem dX8_set_0 : decode cX8_set 0 = .ok (.iload_n 1, 1) := by decide +kernel
theorem dX8_set_1 : decode cX8_set 1 = .ok (.i2l, 1) := by decide +kernel
theorem dX8_set_2 : decode cX8_set 2 = .ok (.lconst 0, 1) := by decide +kernel
theorem dX8_set_3 : decode cX8_set 3 = .ok (.ldc2_w 168, 3) := by decide +kernel
theorem dX8_set_6 : decode cX8_set 6 = .ok (.invokestatic 114, 3) := by decide +kernel
theorem dX8_set_9 : decode cX8_set 9 = .ok (.ifCond .ne 5, 3) := by decide +kernel
theorem dX8_set_12 : decode cX8_set 12 = .ok (.iconst (-1), 1) := by decide +kernel
theorem dX8_set_13 : decode cX8_set 13 = .ok (.ireturn, 1) := by decide +kernel
theorem dX8_set_14 : decode cX8_set 14 = .ok (.iload_n 1, 1) := by decide +kernel
theorem dX8_set_15 : decode cX8_set 15 = .ok (.iload_n 2, 1) := by decide +kernel
theorem dX8_set_16 : decode cX8_set 16 = .ok (.invokestatic 170, 3) := by decide +kernel
theorem dX8_set_19 : decode cX8_set 19 = .ok (.ifCond .ne 6, 3) := by decide +kernel
theorem dX8_set_22 : decode cX8_set 22 = .ok (.bipush (-2), 2) := by decide +kernel
theorem dX8_set_24 : decode cX8_set 24 = .ok (.ireturn, 1) := by decide +kernel
theorem dX8_set_25 : decode cX8_set 25 = .ok (.iload_n 1, 1) := by decide +kernel
theorem dX8_set_26 : decode cX8_set 26 = .ok (.iconst 1, 1) := by decide +kernel
theorem dX8_set_27 : decode cX8_set 27 = .ok (.if_icmp .eq 8, 3) := by decide +kernel
theorem dX8_set_30 : decode cX8_set 30 = .ok (.iload_n 1, 1) := by decide +kernel
theorem dX8_set_31 : decode cX8_set 31 = .ok (.iconst 2, 1) := by decide +kernel
theorem dX8_set_32 : decode cX8_set 32 = .ok (.if_icmp .ne 13, 3) := by decide +kernel
theorem dX8_set_35 : decode cX8_set 35 = .ok (.aload_n 0, 1) := by decide +kernel
theorem dX8_set_36 : decode cX8_set 36 = .ok (.getfield 118, 3) := by decide +kernel
theorem dX8_set_39 : decode cX8_set 39 = .ok (.ifCond .le 6, 3) := by decide +kernel
theorem dX8_set_42 : decode cX8_set 42 = .ok (.bipush (-3), 2) := by decide +kernel
theorem dX8_set_44 : decode cX8_set 44 = .ok (.ireturn, 1) := by decide +kernel
theorem dX8_set_45 : decode cX8_set 45 = .ok (.aload_n 0, 1) := by decide +kernel
theorem dX8_set_46 : decode cX8_set 46 = .ok (.getfield 47, 3) := by decide +kernel
theorem dX8_set_49 : decode cX8_set 49 = .ok (.iload_n 1, 1) := by decide +kernel
theorem dX8_set_50 : decode cX8_set 50 = .ok (.iaload, 1) := by decide +kernel
theorem dX8_set_51 : decode cX8_set 51 = .ok (.istore_n 3, 1) := by decide +kernel
theorem dX8_set_52 : decode cX8_set 52 = .ok (.aload_n 0, 1) := by decide +kernel
theorem dX8_set_53 : decode cX8_set 53 = .ok (.getfield 47, 3) := by decide +kernel
theorem dX8_set_56 : decode cX8_set 56 = .ok (.iload_n 1, 1) := by decide +kernel
theorem dX8_set_57 : decode cX8_set 57 = .ok (.iload_n 2, 1) := by decide +kernel
theorem dX8_set_58 : decode cX8_set 58 = .ok (.iastore, 1) := by decide +kernel
theorem dX8_set_59 : decode cX8_set 59 = .ok (.iload_n 3, 1) := by decide +kernel
theorem dX8_set_60 : decode cX8_set 60 = .ok (.ireturn, 1) := by decide +kernel
theorem dX8_pushes_0 : decode cX8_pushes 0 = .ok (.aload_n 0, 1) := by decide +kernel
theorem dX8_pushes_1 : decode cX8_pushes 1 = .ok (.getfield 50, 3) := by decide +kernel
theorem dX8_pushes_4 : decode cX8_pushes 4 = .ok (.aload_n 0, 1) := by decide +kernel
theorem dX8_pushes_5 : decode cX8_pushes 5 = .ok (.getfield 173, 3) := by decide +kernel
theorem dX8_pushes_8 : decode cX8_pushes 8 = .ok (.iload_n 1, 1) := by decide +kernel
theorem dX8_pushes_9 : decode cX8_pushes 9 = .ok (.iastore, 1) := by decide +kernel
theorem dX8_pushes_10 : decode cX8_pushes 10 = .ok (.aload_n 0, 1) := by decide +kernel
theorem dX8_pushes_11 : decode cX8_pushes 11 = .ok (.dup, 1) := by decide +kernel
theorem dX8_pushes_12 : decode cX8_pushes 12 = .ok (.getfield 173, 3) := by decide +kernel
theorem dX8_pushes_15 : decode cX8_pushes 15 = .ok (.iconst 1, 1) := by decide +kernel
theorem dX8_pushes_16 : decode cX8_pushes 16 = .ok (.iadd, 1) := by decide +kernel
theorem dX8_pushes_17 : decode cX8_pushes 17 = .ok (.putfield 173, 3) := by decide +kernel
theorem dX8_pushes_20 : decode cX8_pushes 20 = .ok (.return_, 1) := by decide +kernel
theorem dX8_of_0 : decode cX8_of 0 = .ok (.iload_n 2, 1) := by decide +kernel
theorem dX8_of_1 : decode cX8_of 1 = .ok (.lookupswitch 85 #[(42, 63), (43, 43), (45, 51), (61, 74)], 43) := by decide +kernel
theorem dX8_of_44 : decode cX8_of 44 = .ok (.iload_n 0, 1) := by decide +kernel
theorem dX8_of_45 : decode cX8_of 45 = .ok (.iload_n 1, 1) := by decide +kernel
theorem dX8_of_46 : decode cX8_of 46 = .ok (.iadd, 1) := by decide +kernel
theorem dX8_of_47 : decode cX8_of 47 = .ok (.sipush 10000, 3) := by decide +kernel
theorem dX8_of_50 : decode cX8_of 50 = .ok (.irem, 1) := by decide +kernel
theorem dX8_of_51 : decode cX8_of 51 = .ok (.ireturn, 1) := by decide +kernel
theorem dX8_of_52 : decode cX8_of 52 = .ok (.iload_n 0, 1) := by decide +kernel
theorem dX8_of_53 : decode cX8_of 53 = .ok (.iload_n 1, 1) := by decide +kernel
theorem dX8_of_54 : decode cX8_of 54 = .ok (.isub, 1) := by decide +kernel
theorem dX8_of_55 : decode cX8_of 55 = .ok (.sipush 10000, 3) := by decide +kernel
theorem dX8_of_58 : decode cX8_of 58 = .ok (.iadd, 1) := by decide +kernel
theorem dX8_of_59 : decode cX8_of 59 = .ok (.sipush 10000, 3) := by decide +kernel
theorem dX8_of_62 : decode cX8_of 62 = .ok (.irem, 1) := by decide +kernel
theorem dX8_of_63 : decode cX8_of 63 = .ok (.ireturn, 1) := by decide +kernel
theorem dX8_of_64 : decode cX8_of 64 = .ok (.iload_n 0, 1) := by decide +kernel
theorem dX8_of_65 : decode cX8_of 65 = .ok (.i2l, 1) := by decide +kernel
theorem dX8_of_66 : decode cX8_of 66 = .ok (.iload_n 1, 1) := by decide +kernel
theorem dX8_of_67 : decode cX8_of 67 = .ok (.i2l, 1) := by decide +kernel
theorem dX8_of_68 : decode cX8_of 68 = .ok (.lmul, 1) := by decide +kernel
theorem dX8_of_69 : decode cX8_of 69 = .ok (.ldc2_w 176, 3) := by decide +kernel
theorem dX8_of_72 : decode cX8_of 72 = .ok (.lrem, 1) := by decide +kernel
theorem dX8_of_73 : decode cX8_of 73 = .ok (.l2i, 1) := by decide +kernel
theorem dX8_of_74 : decode cX8_of 74 = .ok (.ireturn, 1) := by decide +kernel
theorem dX8_of_75 : decode cX8_of 75 = .ok (.iload_n 0, 1) := by decide +kernel
theorem dX8_of_76 : decode cX8_of 76 = .ok (.iload_n 1, 1) := by decide +kernel
theorem dX8_of_77 : decode cX8_of 77 = .ok (.if_icmp .ne 7, 3) := by decide +kernel
theorem dX8_of_80 : decode cX8_of 80 = .ok (.iconst 1, 1) := by decide +kernel
theorem dX8_of_81 : decode cX8_of 81 = .ok (.goto 4, 3) := by decide +kernel
theorem dX8_of_84 : decode cX8_of 84 = .ok (.iconst 0, 1) := by decide +kernel
theorem dX8_of_85 : decode cX8_of 85 = .ok (.ireturn, 1) := by decide +kernel
theorem dX8_of_86 : decode cX8_of 86 = .ok (.iload_n 0, 1) := by decide +kernel
theorem dX8_of_87 : decode cX8_of 87 = .ok (.iload_n 1, 1) := by decide +kernel
theorem dX8_of_88 : decode cX8_of 88 = .ok (.if_icmp .ge 7, 3) := by decide +kernel
theorem dX8_of_91 : decode cX8_of 91 = .ok (.iconst 1, 1) := by decide +kernel
theorem dX8_of_92 : decode cX8_of 92 = .ok (.goto 4, 3) := by decide +kernel
theorem dX8_of_95 : decode cX8_of 95 = .ok (.iconst 0, 1) := by decide +kernel
theorem dX8_of_96 : decode cX8_of 96 = .ok (.ireturn, 1) := by decide +kernel
theorem dX8_needs_0 : decode cX8_needs 0 = .ok (.iload_n 0, 1) := by decide +kernel
theorem dX8_needs_1 : decode cX8_needs 1 = .ok (.bipush 115, 2) := by decide +kernel
theorem dX8_needs_3 : decode cX8_needs 3 = .ok (.if_icmp .eq 15, 3) := by decide +kernel
theorem dX8_needs_6 : decode cX8_needs 6 = .ok (.iload_n 0, 1) := by decide +kernel
theorem dX8_needs_7 : decode cX8_needs 7 = .ok (.bipush 106, 2) := by decide +kernel
theorem dX8_needs_9 : decode cX8_needs 9 = .ok (.if_icmp .eq 9, 3) := by decide +kernel
theorem dX8_needs_12 : decode cX8_needs 12 = .ok (.iload_n 0, 1) := by decide +kernel
theorem dX8_needs_13 : decode cX8_needs 13 = .ok (.bipush 111, 2) := by decide +kernel
theorem dX8_needs_15 : decode cX8_needs 15 = .ok (.if_icmp .ne 7, 3) := by decide +kernel
theorem dX8_needs_18 : decode cX8_needs 18 = .ok (.iconst 1, 1) := by decide +kernel
theorem dX8_needs_19 : decode cX8_needs 19 = .ok (.goto 38, 3) := by decide +kernel
theorem dX8_needs_22 : decode cX8_needs 22 = .ok (.iload_n 0, 1) := by decide +kernel
theorem dX8_needs_23 : decode cX8_needs 23 = .ok (.bipush 43, 2) := by decide +kernel
theorem dX8_needs_25 : decode cX8_needs 25 = .ok (.if_icmp .eq 27, 3) := by decide +kernel
theorem dX8_needs_28 : decode cX8_needs 28 = .ok (.iload_n 0, 1) := by decide +kernel
theorem dX8_needs_29 : decode cX8_needs 29 = .ok (.bipush 45, 2) := by decide +kernel
theorem dX8_needs_31 : decode cX8_needs 31 = .ok (.if_icmp .eq 21, 3) := by decide +kernel
theorem dX8_needs_34 : decode cX8_needs 34 = .ok (.iload_n 0, 1) := by decide +kernel
theorem dX8_needs_35 : decode cX8_needs 35 = .ok (.bipush 42, 2) := by decide +kernel
theorem dX8_needs_37 : decode cX8_needs 37 = .ok (.if_icmp .eq 15, 3) := by decide +kernel
theorem dX8_needs_40 : decode cX8_needs 40 = .ok (.iload_n 0, 1) := by decide +kernel
theorem dX8_needs_41 : decode cX8_needs 41 = .ok (.bipush 61, 2) := by decide +kernel
theorem dX8_needs_43 : decode cX8_needs 43 = .ok (.if_icmp .eq 9, 3) := by decide +kernel
theorem dX8_needs_46 : decode cX8_needs 46 = .ok (.iload_n 0, 1) := by decide +kernel
theorem dX8_needs_47 : decode cX8_needs 47 = .ok (.bipush 60, 2) := by decide +kernel
theorem dX8_needs_49 : decode cX8_needs 49 = .ok (.if_icmp .ne 7, 3) := by decide +kernel
theorem dX8_needs_52 : decode cX8_needs 52 = .ok (.iconst 2, 1) := by decide +kernel
theorem dX8_needs_53 : decode cX8_needs 53 = .ok (.goto 4, 3) := by decide +kernel
theorem dX8_needs_56 : decode cX8_needs 56 = .ok (.iconst 0, 1) := by decide +kernel
theorem dX8_needs_57 : decode cX8_needs 57 = .ok (.ireturn, 1) := by decide +kernel
theorem dX8_isPush_0 : decode cX8_isPush 0 = .ok (.iload_n 0, 1) := by decide +kernel
theorem dX8_isPush_1 : decode cX8_isPush 1 = .ok (.bipush 112, 2) := by decide +kernel
theorem dX8_isPush_3 : decode cX8_isPush 3 = .ok (.if_icmp .eq 21, 3) := by decide +kernel
theorem dX8_isPush_6 : decode cX8_isPush 6 = .ok (.iload_n 0, 1) := by decide +kernel
theorem dX8_isPush_7 : decode cX8_isPush 7 = .ok (.bipush 97, 2) := by decide +kernel
theorem dX8_isPush_9 : decode cX8_isPush 9 = .ok (.if_icmp .eq 15, 3) := by decide +kernel
theorem dX8_isPush_12 : decode cX8_isPush 12 = .ok (.iload_n 0, 1) := by decide +kernel
theorem dX8_isPush_13 : decode cX8_isPush 13 = .ok (.bipush 98, 2) := by decide +kernel
theorem dX8_isPush_15 : decode cX8_isPush 15 = .ok (.if_icmp .eq 9, 3) := by decide +kernel
theorem dX8_isPush_18 : decode cX8_isPush 18 = .ok (.iload_n 0, 1) := by decide +kernel
theorem dX8_isPush_19 : decode cX8_isPush 19 = .ok (.bipush 108, 2) := by decide +kernel
theorem dX8_isPush_21 : decode cX8_isPush 21 = .ok (.if_icmp .ne 7, 3) := by decide +kernel
theorem dX8_isPush_24 : decode cX8_isPush 24 = .ok (.iconst 1, 1) := by decide +kernel
theorem dX8_isPush_25 : decode cX8_isPush 25 = .ok (.goto 4, 3) := by decide +kernel
theorem dX8_isPush_28 : decode cX8_isPush 28 = .ok (.iconst 0, 1) := by decide +kernel
theorem dX8_isPush_29 : decode cX8_isPush 29 = .ok (.ireturn, 1) := by decide +kernel
set_option maxRecDepth 20000 in
theorem ggX8_does_X8_isPush : GoodIn wsX8_does wsX8_isPush := goodIn_r _ [8] (by decide +kernel) (by decide +kernel)
set_option maxRecDepth 20000 in
theorem gX8_does_X8_isPush : GoodIn wsX8_does (va_wsS RX8 181 yX8_isPush wsX8_isPush) := goodIn_app (goodIn_of _ (by decide +kernel)) ggX8_does_X8_isPush
set_option maxRecDepth 20000 in
theorem ggX8_does_X8_pushes : GoodIn wsX8_does wsX8_pushes := goodIn_r _ [12, 4, 3, 20, 21, 22, 23, 24, 25, 26, 27, 28, 29, 30, 31, 32, 33, 34, 35, 36, 37, 38, 39, 40, 41, 42, 43, 44, 45, 46, 47, 48, 49, 50, 51, 52, 53, 54, 55, 56, 57, 58, 59, 60, 61, 62] (by decide +kernel) (by decide +kernel)
set_option maxRecDepth 20000 in
theorem gX8_does_X8_pushes : GoodIn wsX8_does (wsV RX8 184 RX8 yX8_pushes wsX8_pushes) := goodIn_app (goodIn_of _ (by decide +kernel)) ggX8_does_X8_pushes
set_option maxRecDepth 20000 in
theorem ggX8_does_X8_needs : GoodIn wsX8_does wsX8_needs := goodIn_r _ [15] (by decide +kernel) (by decide +kernel)
set_option maxRecDepth 20000 in
theorem gX8_does_X8_needs : GoodIn wsX8_does (va_wsS RX8 188 yX8_needs wsX8_needs) := goodIn_app (goodIn_of _ (by decide +kernel)) ggX8_does_X8_needs
set_option maxRecDepth 20000 in
theorem ggX8_does_X8_of : GoodIn wsX8_does wsX8_of := goodIn_r _ [18, 19] (by decide +kernel) (by decide +kernel)
set_option maxRecDepth 20000 in
theorem gX8_does_X8_of : GoodIn wsX8_does (va_wsS RX8 191 yX8_of wsX8_of) := goodIn_app (goodIn_of _ (by decide +kernel)) ggX8_does_X8_of
theorem dX8_does_0 : decode cX8_does 0 = .ok (.aload_n 0, 1) := by decide +kernel
theorem dX8_does_1 : decode cX8_does 1 = .ok (.dup, 1) := by decide +kernel
theorem dX8_does_2 : decode cX8_does 2 = .ok (.getfield 178, 3) := by decide +kernel
theorem dX8_does_5 : decode cX8_does 5 = .ok (.iconst 1, 1) := by decide +kernel
theorem dX8_does_6 : decode cX8_does 6 = .ok (.iadd, 1) := by decide +kernel
theorem dX8_does_7 : decode cX8_does 7 = .ok (.putfield 178, 3) := by decide +kernel
theorem dX8_does_10 : decode cX8_does 10 = .ok (.iload_n 2, 1) := by decide +kernel
theorem dX8_does_11 : decode cX8_does 11 = .ok (.invokestatic 181, 3) := by decide +kernel
theorem dX8_does_14 : decode cX8_does 14 = .ok (.ifCond .eq 50, 3) := by decide +kernel
theorem dX8_does_17 : decode cX8_does 17 = .ok (.aload_n 0, 1) := by decide +kernel
theorem dX8_does_18 : decode cX8_does 18 = .ok (.iload_n 2, 1) := by decide +kernel
theorem dX8_does_19 : decode cX8_does 19 = .ok (.bipush 112, 2) := by decide +kernel
theorem dX8_does_21 : decode cX8_does 21 = .ok (.if_icmp .ne 7, 3) := by decide +kernel
theorem dX8_does_24 : decode cX8_does 24 = .ok (.iload_n 3, 1) := by decide +kernel
theorem dX8_does_25 : decode cX8_does 25 = .ok (.goto 36, 3) := by decide +kernel
theorem dX8_does_28 : decode cX8_does 28 = .ok (.iload_n 2, 1) := by decide +kernel
theorem dX8_does_29 : decode cX8_does 29 = .ok (.bipush 97, 2) := by decide +kernel
theorem dX8_does_31 : decode cX8_does 31 = .ok (.if_icmp .ne 8, 3) := by decide +kernel
theorem dX8_does_34 : decode cX8_does 34 = .ok (.iload 4, 2) := by decide +kernel
theorem dX8_does_36 : decode cX8_does 36 = .ok (.goto 25, 3) := by decide +kernel
theorem dX8_does_39 : decode cX8_does 39 = .ok (.iload_n 2, 1) := by decide +kernel
theorem dX8_does_40 : decode cX8_does 40 = .ok (.bipush 98, 2) := by decide +kernel
theorem dX8_does_42 : decode cX8_does 42 = .ok (.if_icmp .ne 8, 3) := by decide +kernel
theorem dX8_does_45 : decode cX8_does 45 = .ok (.iload 5, 2) := by decide +kernel
theorem dX8_does_47 : decode cX8_does 47 = .ok (.goto 14, 3) := by decide +kernel
theorem dX8_does_50 : decode cX8_does 50 = .ok (.aload_n 0, 1) := by decide +kernel
theorem dX8_does_51 : decode cX8_does 51 = .ok (.getfield 32, 3) := by decide +kernel
theorem dX8_does_54 : decode cX8_does 54 = .ok (.bipush 8, 2) := by decide +kernel
theorem dX8_does_56 : decode cX8_does 56 = .ok (.iload_n 1, 1) := by decide +kernel
theorem dX8_does_57 : decode cX8_does 57 = .ok (.imul, 1) := by decide +kernel
theorem dX8_does_58 : decode cX8_does 58 = .ok (.iload_n 3, 1) := by decide +kernel
theorem dX8_does_59 : decode cX8_does 59 = .ok (.iadd, 1) := by decide +kernel
theorem dX8_does_60 : decode cX8_does 60 = .ok (.iaload, 1) := by decide +kernel
theorem dX8_does_61 : decode cX8_does 61 = .ok (.invokevirtual 184, 3) := by decide +kernel
theorem dX8_does_64 : decode cX8_does 64 = .ok (.iload_n 2, 1) := by decide +kernel
theorem dX8_does_65 : decode cX8_does 65 = .ok (.bipush 115, 2) := by decide +kernel
theorem dX8_does_67 : decode cX8_does 67 = .ok (.if_icmp .ne 33, 3) := by decide +kernel
theorem dX8_does_70 : decode cX8_does 70 = .ok (.aload_n 0, 1) := by decide +kernel
theorem dX8_does_71 : decode cX8_does 71 = .ok (.dup, 1) := by decide +kernel
theorem dX8_does_72 : decode cX8_does 72 = .ok (.getfield 173, 3) := by decide +kernel
theorem dX8_does_75 : decode cX8_does 75 = .ok (.iconst 1, 1) := by decide +kernel
theorem dX8_does_76 : decode cX8_does 76 = .ok (.isub, 1) := by decide +kernel
theorem dX8_does_77 : decode cX8_does 77 = .ok (.putfield 173, 3) := by decide +kernel
theorem dX8_does_80 : decode cX8_does 80 = .ok (.aload_n 0, 1) := by decide +kernel
theorem dX8_does_81 : decode cX8_does 81 = .ok (.getfield 32, 3) := by decide +kernel
theorem dX8_does_84 : decode cX8_does 84 = .ok (.bipush 8, 2) := by decide +kernel
theorem dX8_does_86 : decode cX8_does 86 = .ok (.iload_n 1, 1) := by decide +kernel
theorem dX8_does_87 : decode cX8_does 87 = .ok (.imul, 1) := by decide +kernel
theorem dX8_does_88 : decode cX8_does 88 = .ok (.iload_n 3, 1) := by decide +kernel
theorem dX8_does_89 : decode cX8_does 89 = .ok (.iadd, 1) := by decide +kernel
theorem dX8_does_90 : decode cX8_does 90 = .ok (.aload_n 0, 1) := by decide +kernel
theorem dX8_does_91 : decode cX8_does 91 = .ok (.getfield 50, 3) := by decide +kernel
theorem dX8_does_94 : decode cX8_does 94 = .ok (.aload_n 0, 1) := by decide +kernel
theorem dX8_does_95 : decode cX8_does 95 = .ok (.getfield 173, 3) := by decide +kernel
theorem dX8_does_98 : decode cX8_does 98 = .ok (.iaload, 1) := by decide +kernel
theorem dX8_does_99 : decode cX8_does 99 = .ok (.iastore, 1) := by decide +kernel
theorem dX8_does_100 : decode cX8_does 100 = .ok (.iload_n 2, 1) := by decide +kernel
theorem dX8_does_101 : decode cX8_does 101 = .ok (.invokestatic 188, 3) := by decide +kernel
theorem dX8_does_104 : decode cX8_does 104 = .ok (.iconst 2, 1) := by decide +kernel
theorem dX8_does_105 : decode cX8_does 105 = .ok (.if_icmp .ne 48, 3) := by decide +kernel
theorem dX8_does_108 : decode cX8_does 108 = .ok (.aload_n 0, 1) := by decide +kernel
theorem dX8_does_109 : decode cX8_does 109 = .ok (.dup, 1) := by decide +kernel
theorem dX8_does_110 : decode cX8_does 110 = .ok (.getfield 173, 3) := by decide +kernel
theorem dX8_does_113 : decode cX8_does 113 = .ok (.iconst 1, 1) := by decide +kernel
theorem dX8_does_114 : decode cX8_does 114 = .ok (.isub, 1) := by decide +kernel
theorem dX8_does_115 : decode cX8_does 115 = .ok (.putfield 173, 3) := by decide +kernel
theorem dX8_does_118 : decode cX8_does 118 = .ok (.aload_n 0, 1) := by decide +kernel
theorem dX8_does_119 : decode cX8_does 119 = .ok (.getfield 50, 3) := by decide +kernel
theorem dX8_does_122 : decode cX8_does 122 = .ok (.aload_n 0, 1) := by decide +kernel
theorem dX8_does_123 : decode cX8_does 123 = .ok (.getfield 173, 3) := by decide +kernel
theorem dX8_does_126 : decode cX8_does 126 = .ok (.iconst 1, 1) := by decide +kernel
theorem dX8_does_127 : decode cX8_does 127 = .ok (.isub, 1) := by decide +kernel
theorem dX8_does_128 : decode cX8_does 128 = .ok (.aload_n 0, 1) := by decide +kernel
theorem dX8_does_129 : decode cX8_does 129 = .ok (.getfield 50, 3) := by decide +kernel
theorem dX8_does_132 : decode cX8_does 132 = .ok (.aload_n 0, 1) := by decide +kernel
theorem dX8_does_133 : decode cX8_does 133 = .ok (.getfield 173, 3) := by decide +kernel
theorem dX8_does_136 : decode cX8_does 136 = .ok (.iconst 1, 1) := by decide +kernel
theorem dX8_does_137 : decode cX8_does 137 = .ok (.isub, 1) := by decide +kernel
theorem dX8_does_138 : decode cX8_does 138 = .ok (.iaload, 1) := by decide +kernel
theorem dX8_does_139 : decode cX8_does 139 = .ok (.aload_n 0, 1) := by decide +kernel
theorem dX8_does_140 : decode cX8_does 140 = .ok (.getfield 50, 3) := by decide +kernel
theorem dX8_does_143 : decode cX8_does 143 = .ok (.aload_n 0, 1) := by decide +kernel
theorem dX8_does_144 : decode cX8_does 144 = .ok (.getfield 173, 3) := by decide +kernel
theorem dX8_does_147 : decode cX8_does 147 = .ok (.iaload, 1) := by decide +kernel
theorem dX8_does_148 : decode cX8_does 148 = .ok (.iload_n 2, 1) := by decide +kernel
theorem dX8_does_149 : decode cX8_does 149 = .ok (.invokestatic 191, 3) := by decide +kernel
theorem dX8_does_152 : decode cX8_does 152 = .ok (.iastore, 1) := by decide +kernel
theorem dX8_does_153 : decode cX8_does 153 = .ok (.iload_n 2, 1) := by decide +kernel
theorem dX8_does_154 : decode cX8_does 154 = .ok (.bipush 106, 2) := by decide +kernel
theorem dX8_does_156 : decode cX8_does 156 = .ok (.if_icmp .ne 30, 3) := by decide +kernel
theorem dX8_does_159 : decode cX8_does 159 = .ok (.aload_n 0, 1) := by decide +kernel
theorem dX8_does_160 : decode cX8_does 160 = .ok (.dup, 1) := by decide +kernel
theorem dX8_does_161 : decode cX8_does 161 = .ok (.getfield 173, 3) := by decide +kernel
theorem dX8_does_164 : decode cX8_does 164 = .ok (.iconst 1, 1) := by decide +kernel
theorem dX8_does_165 : decode cX8_does 165 = .ok (.isub, 1) := by decide +kernel
theorem dX8_does_166 : decode cX8_does 166 = .ok (.putfield 173, 3) := by decide +kernel
theorem dX8_does_169 : decode cX8_does 169 = .ok (.aload_n 0, 1) := by decide +kernel
theorem dX8_does_170 : decode cX8_does 170 = .ok (.getfield 50, 3) := by decide +kernel
theorem dX8_does_173 : decode cX8_does 173 = .ok (.aload_n 0, 1) := by decide +kernel
theorem dX8_does_174 : decode cX8_does 174 = .ok (.getfield 173, 3) := by decide +kernel
theorem dX8_does_177 : decode cX8_does 177 = .ok (.iaload, 1) := by decide +kernel
theorem dX8_does_178 : decode cX8_does 178 = .ok (.ifCond .ne 8, 3) := by decide +kernel
theorem dX8_does_181 : decode cX8_does 181 = .ok (.aload_n 0, 1) := by decide +kernel
theorem dX8_does_182 : decode cX8_does 182 = .ok (.iload_n 3, 1) := by decide +kernel
theorem dX8_does_183 : decode cX8_does 183 = .ok (.putfield 178, 3) := by decide +kernel
theorem dX8_does_186 : decode cX8_does 186 = .ok (.iload_n 2, 1) := by decide +kernel
theorem dX8_does_187 : decode cX8_does 187 = .ok (.bipush 103, 2) := by decide +kernel
theorem dX8_does_189 : decode cX8_does 189 = .ok (.if_icmp .ne 8, 3) := by decide +kernel
theorem dX8_does_192 : decode cX8_does 192 = .ok (.aload_n 0, 1) := by decide +kernel
theorem dX8_does_193 : decode cX8_does 193 = .ok (.iload_n 3, 1) := by decide +kernel
theorem dX8_does_194 : decode cX8_does 194 = .ok (.putfield 178, 3) := by decide +kernel
theorem dX8_does_197 : decode cX8_does 197 = .ok (.return_, 1) := by decide +kernel
set_option maxRecDepth 20000 in
theorem ggX8_runs_X8_needs : GoodIn wsX8_runs wsX8_needs := goodIn_r _ [17] (by decide +kernel) (by decide +kernel)
set_option maxRecDepth 20000 in
theorem gX8_runs_X8_needs : GoodIn wsX8_runs (va_wsS RX8 188 yX8_needs wsX8_needs) := goodIn_app (goodIn_of _ (by decide +kernel)) ggX8_runs_X8_needs
set_option maxRecDepth 20000 in
theorem ggX8_runs_X8_isPush : GoodIn wsX8_runs wsX8_isPush := goodIn_r _ [20] (by decide +kernel) (by decide +kernel)
set_option maxRecDepth 20000 in
theorem gX8_runs_X8_isPush : GoodIn wsX8_runs (va_wsS RX8 181 yX8_isPush wsX8_isPush) := goodIn_app (goodIn_of _ (by decide +kernel)) ggX8_runs_X8_isPush
set_option maxRecDepth 20000 in
theorem ggX8_runs_X8_does : GoodIn wsX8_runs wsX8_does := goodIn_r _ [24, 2, 4, 1, 12, 18, 19, 16, 20, 25, 26, 27, 28, 14, 15, 17, 29, 30, 31, 32, 33, 34, 35, 36, 37, 38, 39, 40, 41, 42, 43, 44, 45, 46, 47, 48, 49, 50, 51, 52, 53, 54, 55, 56, 57, 58, 59, 60, 61, 62, 63, 64, 65, 66, 67, 68, 69, 70, 71, 72, 73, 74, 75] (by decide +kernel) (by decide +kernel)
set_option maxRecDepth 20000 in
theorem gX8_runs_X8_does : GoodIn wsX8_runs (wsV RX8 199 RX8 yX8_does wsX8_does) := goodIn_app (goodIn_of _ (by decide +kernel)) ggX8_runs_X8_does
theorem dX8_runs_0 : decode cX8_runs 0 = .ok (.aload_n 0, 1) := by decide +kernel
theorem dX8_runs_1 : decode cX8_runs 1 = .ok (.iconst 0, 1) := by decide +kernel
theorem dX8_runs_2 : decode cX8_runs 2 = .ok (.putfield 173, 3) := by decide +kernel
theorem dX8_runs_5 : decode cX8_runs 5 = .ok (.aload_n 0, 1) := by decide +kernel
theorem dX8_runs_6 : decode cX8_runs 6 = .ok (.iconst 0, 1) := by decide +kernel
theorem dX8_runs_7 : decode cX8_runs 7 = .ok (.putfield 178, 3) := by decide +kernel
theorem dX8_runs_10 : decode cX8_runs 10 = .ok (.iconst 0, 1) := by decide +kernel
theorem dX8_runs_11 : decode cX8_runs 11 = .ok (.istore 4, 2) := by decide +kernel
theorem dX8_runs_13 : decode cX8_runs 13 = .ok (.iload 4, 2) := by decide +kernel
theorem dX8_runs_15 : decode cX8_runs 15 = .ok (.bipush 8, 2) := by decide +kernel
theorem dX8_runs_17 : decode cX8_runs 17 = .ok (.if_icmp .ge 28, 3) := by decide +kernel
theorem dX8_runs_20 : decode cX8_runs 20 = .ok (.aload_n 0, 1) := by decide +kernel
theorem dX8_runs_21 : decode cX8_runs 21 = .ok (.getfield 35, 3) := by decide +kernel
theorem dX8_runs_24 : decode cX8_runs 24 = .ok (.iload 4, 2) := by decide +kernel
theorem dX8_runs_26 : decode cX8_runs 26 = .ok (.aload_n 0, 1) := by decide +kernel
theorem dX8_runs_27 : decode cX8_runs 27 = .ok (.getfield 32, 3) := by decide +kernel
theorem dX8_runs_30 : decode cX8_runs 30 = .ok (.bipush 8, 2) := by decide +kernel
theorem dX8_runs_32 : decode cX8_runs 32 = .ok (.iload_n 1, 1) := by decide +kernel
theorem dX8_runs_33 : decode cX8_runs 33 = .ok (.imul, 1) := by decide +kernel
theorem dX8_runs_34 : decode cX8_runs 34 = .ok (.iload 4, 2) := by decide +kernel
theorem dX8_runs_36 : decode cX8_runs 36 = .ok (.iadd, 1) := by decide +kernel
theorem dX8_runs_37 : decode cX8_runs 37 = .ok (.iaload, 1) := by decide +kernel
theorem dX8_runs_38 : decode cX8_runs 38 = .ok (.iastore, 1) := by decide +kernel
theorem dX8_runs_39 : decode cX8_runs 39 = .ok (.iinc 4 1, 3) := by decide +kernel
theorem dX8_runs_42 : decode cX8_runs 42 = .ok (.goto (-29), 3) := by decide +kernel
theorem dX8_runs_45 : decode cX8_runs 45 = .ok (.iconst 0, 1) := by decide +kernel
theorem dX8_runs_46 : decode cX8_runs 46 = .ok (.istore 4, 2) := by decide +kernel
theorem dX8_runs_48 : decode cX8_runs 48 = .ok (.aload_n 0, 1) := by decide +kernel
theorem dX8_runs_49 : decode cX8_runs 49 = .ok (.getfield 178, 3) := by decide +kernel
theorem dX8_runs_52 : decode cX8_runs 52 = .ok (.aload_n 0, 1) := by decide +kernel
theorem dX8_runs_53 : decode cX8_runs 53 = .ok (.getfield 19, 3) := by decide +kernel
theorem dX8_runs_56 : decode cX8_runs 56 = .ok (.iload_n 1, 1) := by decide +kernel
theorem dX8_runs_57 : decode cX8_runs 57 = .ok (.iaload, 1) := by decide +kernel
theorem dX8_runs_58 : decode cX8_runs 58 = .ok (.if_icmp .ge 194, 3) := by decide +kernel
theorem dX8_runs_61 : decode cX8_runs 61 = .ok (.iload 4, 2) := by decide +kernel
theorem dX8_runs_63 : decode cX8_runs 63 = .ok (.aload_n 0, 1) := by decide +kernel
theorem dX8_runs_64 : decode cX8_runs 64 = .ok (.getfield 47, 3) := by decide +kernel
theorem dX8_runs_67 : decode cX8_runs 67 = .ok (.iconst 0, 1) := by decide +kernel
theorem dX8_runs_68 : decode cX8_runs 68 = .ok (.iaload, 1) := by decide +kernel
theorem dX8_runs_69 : decode cX8_runs 69 = .ok (.if_icmp .ne 17, 3) := by decide +kernel
theorem dX8_runs_72 : decode cX8_runs 72 = .ok (.aload_n 0, 1) := by decide +kernel
theorem dX8_runs_73 : decode cX8_runs 73 = .ok (.getfield 41, 3) := by decide +kernel
theorem dX8_runs_76 : decode cX8_runs 76 = .ok (.iload_n 1, 1) := by decide +kernel
theorem dX8_runs_77 : decode cX8_runs 77 = .ok (.dup2, 1) := by decide +kernel
theorem dX8_runs_78 : decode cX8_runs 78 = .ok (.iaload, 1) := by decide +kernel
theorem dX8_runs_79 : decode cX8_runs 79 = .ok (.iconst 1, 1) := by decide +kernel
theorem dX8_runs_80 : decode cX8_runs 80 = .ok (.iadd, 1) := by decide +kernel
theorem dX8_runs_81 : decode cX8_runs 81 = .ok (.iastore, 1) := by decide +kernel
theorem dX8_runs_82 : decode cX8_runs 82 = .ok (.sipush 10001, 3) := by decide +kernel
theorem dX8_runs_85 : decode cX8_runs 85 = .ok (.ireturn, 1) := by decide +kernel
theorem dX8_runs_86 : decode cX8_runs 86 = .ok (.iinc 4 1, 3) := by decide +kernel
theorem dX8_runs_89 : decode cX8_runs 89 = .ok (.aload_n 0, 1) := by decide +kernel
theorem dX8_runs_90 : decode cX8_runs 90 = .ok (.aload_n 0, 1) := by decide +kernel
theorem dX8_runs_91 : decode cX8_runs 91 = .ok (.getfield 195, 3) := by decide +kernel
theorem dX8_runs_94 : decode cX8_runs 94 = .ok (.iconst 1, 1) := by decide +kernel
theorem dX8_runs_95 : decode cX8_runs 95 = .ok (.iadd, 1) := by decide +kernel
theorem dX8_runs_96 : decode cX8_runs 96 = .ok (.ldc 198, 2) := by decide +kernel
theorem dX8_runs_98 : decode cX8_runs 98 = .ok (.irem, 1) := by decide +kernel
theorem dX8_runs_99 : decode cX8_runs 99 = .ok (.putfield 195, 3) := by decide +kernel
theorem dX8_runs_102 : decode cX8_runs 102 = .ok (.aload_n 0, 1) := by decide +kernel
theorem dX8_runs_103 : decode cX8_runs 103 = .ok (.getfield 13, 3) := by decide +kernel
theorem dX8_runs_106 : decode cX8_runs 106 = .ok (.bipush 24, 2) := by decide +kernel
theorem dX8_runs_108 : decode cX8_runs 108 = .ok (.iload_n 1, 1) := by decide +kernel
theorem dX8_runs_109 : decode cX8_runs 109 = .ok (.imul, 1) := by decide +kernel
theorem dX8_runs_110 : decode cX8_runs 110 = .ok (.aload_n 0, 1) := by decide +kernel
theorem dX8_runs_111 : decode cX8_runs 111 = .ok (.getfield 178, 3) := by decide +kernel
theorem dX8_runs_114 : decode cX8_runs 114 = .ok (.iadd, 1) := by decide +kernel
theorem dX8_runs_115 : decode cX8_runs 115 = .ok (.iaload, 1) := by decide +kernel
theorem dX8_runs_116 : decode cX8_runs 116 = .ok (.istore 5, 2) := by decide +kernel
theorem dX8_runs_118 : decode cX8_runs 118 = .ok (.aload_n 0, 1) := by decide +kernel
theorem dX8_runs_119 : decode cX8_runs 119 = .ok (.getfield 173, 3) := by decide +kernel
theorem dX8_runs_122 : decode cX8_runs 122 = .ok (.iload 5, 2) := by decide +kernel
theorem dX8_runs_124 : decode cX8_runs 124 = .ok (.invokestatic 188, 3) := by decide +kernel
theorem dX8_runs_127 : decode cX8_runs 127 = .ok (.if_icmp .lt 20, 3) := by decide +kernel
theorem dX8_runs_130 : decode cX8_runs 130 = .ok (.iload 5, 2) := by decide +kernel
theorem dX8_runs_132 : decode cX8_runs 132 = .ok (.invokestatic 181, 3) := by decide +kernel
theorem dX8_runs_135 : decode cX8_runs 135 = .ok (.ifCond .eq 61, 3) := by decide +kernel
theorem dX8_runs_138 : decode cX8_runs 138 = .ok (.aload_n 0, 1) := by decide +kernel
theorem dX8_runs_139 : decode cX8_runs 139 = .ok (.getfield 173, 3) := by decide +kernel
theorem dX8_runs_142 : decode cX8_runs 142 = .ok (.bipush 8, 2) := by decide +kernel
theorem dX8_runs_144 : decode cX8_runs 144 = .ok (.if_icmp .ne 52, 3) := by decide +kernel
theorem dX8_runs_147 : decode cX8_runs 147 = .ok (.iconst 0, 1) := by decide +kernel
theorem dX8_runs_148 : decode cX8_runs 148 = .ok (.istore 6, 2) := by decide +kernel
theorem dX8_runs_150 : decode cX8_runs 150 = .ok (.iload 6, 2) := by decide +kernel
theorem dX8_runs_152 : decode cX8_runs 152 = .ok (.bipush 8, 2) := by decide +kernel
theorem dX8_runs_154 : decode cX8_runs 154 = .ok (.if_icmp .ge 28, 3) := by decide +kernel
theorem dX8_runs_157 : decode cX8_runs 157 = .ok (.aload_n 0, 1) := by decide +kernel
theorem dX8_runs_158 : decode cX8_runs 158 = .ok (.getfield 32, 3) := by decide +kernel
theorem dX8_runs_161 : decode cX8_runs 161 = .ok (.bipush 8, 2) := by decide +kernel
theorem dX8_runs_163 : decode cX8_runs 163 = .ok (.iload_n 1, 1) := by decide +kernel
theorem dX8_runs_164 : decode cX8_runs 164 = .ok (.imul, 1) := by decide +kernel
theorem dX8_runs_165 : decode cX8_runs 165 = .ok (.iload 6, 2) := by decide +kernel
theorem dX8_runs_167 : decode cX8_runs 167 = .ok (.iadd, 1) := by decide +kernel
theorem dX8_runs_168 : decode cX8_runs 168 = .ok (.aload_n 0, 1) := by decide +kernel
theorem dX8_runs_169 : decode cX8_runs 169 = .ok (.getfield 35, 3) := by decide +kernel
theorem dX8_runs_172 : decode cX8_runs 172 = .ok (.iload 6, 2) := by decide +kernel
theorem dX8_runs_174 : decode cX8_runs 174 = .ok (.iaload, 1) := by decide +kernel
theorem dX8_runs_175 : decode cX8_runs 175 = .ok (.iastore, 1) := by decide +kernel
theorem dX8_runs_176 : decode cX8_runs 176 = .ok (.iinc 6 1, 3) := by decide +kernel
theorem dX8_runs_179 : decode cX8_runs 179 = .ok (.goto (-29), 3) := by decide +kernel
theorem dX8_runs_182 : decode cX8_runs 182 = .ok (.aload_n 0, 1) := by decide +kernel
theorem dX8_runs_183 : decode cX8_runs 183 = .ok (.getfield 38, 3) := by decide +kernel
theorem dX8_runs_186 : decode cX8_runs 186 = .ok (.iload_n 1, 1) := by decide +kernel
theorem dX8_runs_187 : decode cX8_runs 187 = .ok (.dup2, 1) := by decide +kernel
theorem dX8_runs_188 : decode cX8_runs 188 = .ok (.iaload, 1) := by decide +kernel
theorem dX8_runs_189 : decode cX8_runs 189 = .ok (.iconst 1, 1) := by decide +kernel
theorem dX8_runs_190 : decode cX8_runs 190 = .ok (.iadd, 1) := by decide +kernel
theorem dX8_runs_191 : decode cX8_runs 191 = .ok (.iastore, 1) := by decide +kernel
theorem dX8_runs_192 : decode cX8_runs 192 = .ok (.sipush 10002, 3) := by decide +kernel
theorem dX8_runs_195 : decode cX8_runs 195 = .ok (.ireturn, 1) := by decide +kernel
theorem dX8_runs_196 : decode cX8_runs 196 = .ok (.iload 5, 2) := by decide +kernel
theorem dX8_runs_198 : decode cX8_runs 198 = .ok (.bipush 111, 2) := by decide +kernel
theorem dX8_runs_200 : decode cX8_runs 200 = .ok (.if_icmp .ne 15, 3) := by decide +kernel
theorem dX8_runs_203 : decode cX8_runs 203 = .ok (.aload_n 0, 1) := by decide +kernel
theorem dX8_runs_204 : decode cX8_runs 204 = .ok (.getfield 50, 3) := by decide +kernel
theorem dX8_runs_207 : decode cX8_runs 207 = .ok (.aload_n 0, 1) := by decide +kernel
theorem dX8_runs_208 : decode cX8_runs 208 = .ok (.getfield 173, 3) := by decide +kernel
theorem dX8_runs_211 : decode cX8_runs 211 = .ok (.iconst 1, 1) := by decide +kernel
theorem dX8_runs_212 : decode cX8_runs 212 = .ok (.isub, 1) := by decide +kernel
theorem dX8_runs_213 : decode cX8_runs 213 = .ok (.iaload, 1) := by decide +kernel
theorem dX8_runs_214 : decode cX8_runs 214 = .ok (.ireturn, 1) := by decide +kernel
theorem dX8_runs_215 : decode cX8_runs 215 = .ok (.iload 5, 2) := by decide +kernel
theorem dX8_runs_217 : decode cX8_runs 217 = .ok (.bipush 104, 2) := by decide +kernel
theorem dX8_runs_219 : decode cX8_runs 219 = .ok (.if_icmp .ne 7, 3) := by decide +kernel
theorem dX8_runs_222 : decode cX8_runs 222 = .ok (.sipush 10000, 3) := by decide +kernel
theorem dX8_runs_225 : decode cX8_runs 225 = .ok (.ireturn, 1) := by decide +kernel
theorem dX8_runs_226 : decode cX8_runs 226 = .ok (.aload_n 0, 1) := by decide +kernel
theorem dX8_runs_227 : decode cX8_runs 227 = .ok (.iload_n 1, 1) := by decide +kernel
theorem dX8_runs_228 : decode cX8_runs 228 = .ok (.iload 5, 2) := by decide +kernel
theorem dX8_runs_230 : decode cX8_runs 230 = .ok (.aload_n 0, 1) := by decide +kernel
theorem dX8_runs_231 : decode cX8_runs 231 = .ok (.getfield 16, 3) := by decide +kernel
theorem dX8_runs_234 : decode cX8_runs 234 = .ok (.bipush 24, 2) := by decide +kernel
theorem dX8_runs_236 : decode cX8_runs 236 = .ok (.iload_n 1, 1) := by decide +kernel
theorem dX8_runs_237 : decode cX8_runs 237 = .ok (.imul, 1) := by decide +kernel
theorem dX8_runs_238 : decode cX8_runs 238 = .ok (.aload_n 0, 1) := by decide +kernel
theorem dX8_runs_239 : decode cX8_runs 239 = .ok (.getfield 178, 3) := by decide +kernel
theorem dX8_runs_242 : decode cX8_runs 242 = .ok (.iadd, 1) := by decide +kernel
theorem dX8_runs_243 : decode cX8_runs 243 = .ok (.iaload, 1) := by decide +kernel
theorem dX8_runs_244 : decode cX8_runs 244 = .ok (.iload_n 2, 1) := by decide +kernel
theorem dX8_runs_245 : decode cX8_runs 245 = .ok (.iload_n 3, 1) := by decide +kernel
theorem dX8_runs_246 : decode cX8_runs 246 = .ok (.invokevirtual 199, 3) := by decide +kernel
theorem dX8_runs_249 : decode cX8_runs 249 = .ok (.goto (-201), 3) := by decide +kernel
theorem dX8_runs_252 : decode cX8_runs 252 = .ok (.sipush 10000, 3) := by decide +kernel
theorem dX8_runs_255 : decode cX8_runs 255 = .ok (.ireturn, 1) := by decide +kernel
set_option maxRecDepth 20000 in
theorem ggX8_letter_X8_isTeam : GoodIn wsX8_letter wsX8_isTeam := goodIn_r _ [11, 12, 56, 57, 58, 59, 60, 61, 62, 63, 64, 65, 66, 67, 68, 69, 70, 71, 72, 73, 74, 75, 76, 77, 78, 79, 80, 81, 82, 83, 84, 85, 86, 87, 88, 89, 90, 91, 92, 93, 94, 95, 96, 97, 98] (by decide +kernel) (by decide +kernel)
set_option maxRecDepth 20000 in
theorem gX8_letter_X8_isTeam : GoodIn wsX8_letter (wsV RX8 108 RX8 yX8_isTeam wsX8_isTeam) := goodIn_app (goodIn_of _ (by decide +kernel)) ggX8_letter_X8_isTeam
set_option maxRecDepth 20000 in
theorem ggX8_letter_X8_isPlace : GoodIn wsX8_letter wsX8_isPlace := goodIn_r _ [16, 17, 7, 8, 9, 10, 11, 12, 18, 19, 20, 56, 57, 58, 59, 60, 61, 62, 63, 64, 65, 66, 67, 68, 69, 70, 71, 72, 73, 74, 75, 76, 77, 78, 79, 80, 81, 82, 83, 84, 85, 86, 87, 88, 89, 90, 91, 92, 93, 94, 95, 96, 97, 98] (by decide +kernel) (by decide +kernel)
set_option maxRecDepth 20000 in
theorem gX8_letter_X8_isPlace : GoodIn wsX8_letter (wsV RX8 149 RX8 yX8_isPlace wsX8_isPlace) := goodIn_app (goodIn_of _ (by decide +kernel)) ggX8_letter_X8_isPlace
set_option maxRecDepth 20000 in
theorem ggX8_letter_X8_isIn : GoodIn wsX8_letter wsX8_isIn := goodIn_r _ [20] (by decide +kernel) (by decide +kernel)
set_option maxRecDepth 20000 in
theorem gX8_letter_X8_isIn : GoodIn wsX8_letter (va_wsS RX8 114 yX8_isIn wsX8_isIn) := goodIn_app (goodIn_of _ (by decide +kernel)) ggX8_letter_X8_isIn
set_option maxRecDepth 20000 in
theorem ggX8_letter_X8_runs : GoodIn wsX8_letter wsX8_runs := goodIn_r _ [24, 25, 26, 27, 28, 29, 30, 31, 32, 33, 34, 35, 36, 37, 38, 39, 10, 40, 41, 42, 43, 44, 45, 46, 47, 48, 49, 50, 51, 52, 53, 54, 55, 56, 57, 58, 59, 60, 61, 62, 63, 64, 65, 66, 67, 68, 69, 70, 71, 72, 73, 74, 75, 76, 77, 78, 79, 80, 81, 82, 83, 84, 85, 86, 87, 88, 89, 90, 91, 92, 93, 94, 95, 96, 97, 98] (by decide +kernel) (by decide +kernel)
set_option maxRecDepth 20000 in
theorem gX8_letter_X8_runs : GoodIn wsX8_letter (wsV RX8 209 RX8 yX8_runs wsX8_runs) := goodIn_app (goodIn_of _ (by decide +kernel)) ggX8_letter_X8_runs
theorem dX8_letter_0 : decode cX8_letter 0 = .ok (.aload_n 0, 1) := by decide +kernel
theorem dX8_letter_1 : decode cX8_letter 1 = .ok (.iload_n 1, 1) := by decide +kernel
theorem dX8_letter_2 : decode cX8_letter 2 = .ok (.invokevirtual 108, 3) := by decide +kernel
theorem dX8_letter_5 : decode cX8_letter 5 = .ok (.ifCond .eq 12, 3) := by decide +kernel
theorem dX8_letter_8 : decode cX8_letter 8 = .ok (.aload_n 0, 1) := by decide +kernel
theorem dX8_letter_9 : decode cX8_letter 9 = .ok (.iload_n 2, 1) := by decide +kernel
theorem dX8_letter_10 : decode cX8_letter 10 = .ok (.iload_n 3, 1) := by decide +kernel
theorem dX8_letter_11 : decode cX8_letter 11 = .ok (.invokevirtual 149, 3) := by decide +kernel
theorem dX8_letter_14 : decode cX8_letter 14 = .ok (.ifCond .ne 5, 3) := by decide +kernel
theorem dX8_letter_17 : decode cX8_letter 17 = .ok (.iconst (-1), 1) := by decide +kernel
theorem dX8_letter_18 : decode cX8_letter 18 = .ok (.ireturn, 1) := by decide +kernel
theorem dX8_letter_19 : decode cX8_letter 19 = .ok (.iload 4, 2) := by decide +kernel
theorem dX8_letter_21 : decode cX8_letter 21 = .ok (.i2l, 1) := by decide +kernel
theorem dX8_letter_22 : decode cX8_letter 22 = .ok (.lconst 0, 1) := by decide +kernel
theorem dX8_letter_23 : decode cX8_letter 23 = .ok (.ldc2_w 166, 3) := by decide +kernel
theorem dX8_letter_26 : decode cX8_letter 26 = .ok (.invokestatic 114, 3) := by decide +kernel
theorem dX8_letter_29 : decode cX8_letter 29 = .ok (.ifCond .eq 16, 3) := by decide +kernel
theorem dX8_letter_32 : decode cX8_letter 32 = .ok (.iload 5, 2) := by decide +kernel
theorem dX8_letter_34 : decode cX8_letter 34 = .ok (.i2l, 1) := by decide +kernel
theorem dX8_letter_35 : decode cX8_letter 35 = .ok (.lconst 0, 1) := by decide +kernel
theorem dX8_letter_36 : decode cX8_letter 36 = .ok (.ldc2_w 166, 3) := by decide +kernel
theorem dX8_letter_39 : decode cX8_letter 39 = .ok (.invokestatic 114, 3) := by decide +kernel
theorem dX8_letter_42 : decode cX8_letter 42 = .ok (.ifCond .ne 6, 3) := by decide +kernel
theorem dX8_letter_45 : decode cX8_letter 45 = .ok (.bipush (-2), 2) := by decide +kernel
theorem dX8_letter_47 : decode cX8_letter 47 = .ok (.ireturn, 1) := by decide +kernel
theorem dX8_letter_48 : decode cX8_letter 48 = .ok (.aload_n 0, 1) := by decide +kernel
theorem dX8_letter_49 : decode cX8_letter 49 = .ok (.getfield 203, 3) := by decide +kernel
theorem dX8_letter_52 : decode cX8_letter 52 = .ok (.sipush 400, 3) := by decide +kernel
theorem dX8_letter_55 : decode cX8_letter 55 = .ok (.if_icmp .ne 6, 3) := by decide +kernel
theorem dX8_letter_58 : decode cX8_letter 58 = .ok (.bipush (-4), 2) := by decide +kernel
theorem dX8_letter_60 : decode cX8_letter 60 = .ok (.ireturn, 1) := by decide +kernel
theorem dX8_letter_61 : decode cX8_letter 61 = .ok (.aload_n 0, 1) := by decide +kernel
theorem dX8_letter_62 : decode cX8_letter 62 = .ok (.getfield 53, 3) := by decide +kernel
theorem dX8_letter_65 : decode cX8_letter 65 = .ok (.aload_n 0, 1) := by decide +kernel
theorem dX8_letter_66 : decode cX8_letter 66 = .ok (.getfield 203, 3) := by decide +kernel
theorem dX8_letter_69 : decode cX8_letter 69 = .ok (.iconst 3, 1) := by decide +kernel
theorem dX8_letter_70 : decode cX8_letter 70 = .ok (.iload_n 2, 1) := by decide +kernel
theorem dX8_letter_71 : decode cX8_letter 71 = .ok (.imul, 1) := by decide +kernel
theorem dX8_letter_72 : decode cX8_letter 72 = .ok (.iload_n 3, 1) := by decide +kernel
theorem dX8_letter_73 : decode cX8_letter 73 = .ok (.iadd, 1) := by decide +kernel
theorem dX8_letter_74 : decode cX8_letter 74 = .ok (.iastore, 1) := by decide +kernel
theorem dX8_letter_75 : decode cX8_letter 75 = .ok (.aload_n 0, 1) := by decide +kernel
theorem dX8_letter_76 : decode cX8_letter 76 = .ok (.getfield 56, 3) := by decide +kernel
theorem dX8_letter_79 : decode cX8_letter 79 = .ok (.aload_n 0, 1) := by decide +kernel
theorem dX8_letter_80 : decode cX8_letter 80 = .ok (.getfield 203, 3) := by decide +kernel
theorem dX8_letter_83 : decode cX8_letter 83 = .ok (.iload 4, 2) := by decide +kernel
theorem dX8_letter_85 : decode cX8_letter 85 = .ok (.iastore, 1) := by decide +kernel
theorem dX8_letter_86 : decode cX8_letter 86 = .ok (.aload_n 0, 1) := by decide +kernel
theorem dX8_letter_87 : decode cX8_letter 87 = .ok (.getfield 59, 3) := by decide +kernel
theorem dX8_letter_90 : decode cX8_letter 90 = .ok (.aload_n 0, 1) := by decide +kernel
theorem dX8_letter_91 : decode cX8_letter 91 = .ok (.getfield 203, 3) := by decide +kernel
theorem dX8_letter_94 : decode cX8_letter 94 = .ok (.iload 5, 2) := by decide +kernel
theorem dX8_letter_96 : decode cX8_letter 96 = .ok (.iastore, 1) := by decide +kernel
theorem dX8_letter_97 : decode cX8_letter 97 = .ok (.aload_n 0, 1) := by decide +kernel
theorem dX8_letter_98 : decode cX8_letter 98 = .ok (.dup, 1) := by decide +kernel
theorem dX8_letter_99 : decode cX8_letter 99 = .ok (.getfield 203, 3) := by decide +kernel
theorem dX8_letter_102 : decode cX8_letter 102 = .ok (.iconst 1, 1) := by decide +kernel
theorem dX8_letter_103 : decode cX8_letter 103 = .ok (.iadd, 1) := by decide +kernel
theorem dX8_letter_104 : decode cX8_letter 104 = .ok (.putfield 203, 3) := by decide +kernel
theorem dX8_letter_107 : decode cX8_letter 107 = .ok (.aload_n 0, 1) := by decide +kernel
theorem dX8_letter_108 : decode cX8_letter 108 = .ok (.dup, 1) := by decide +kernel
theorem dX8_letter_109 : decode cX8_letter 109 = .ok (.getfield 206, 3) := by decide +kernel
theorem dX8_letter_112 : decode cX8_letter 112 = .ok (.iconst 1, 1) := by decide +kernel
theorem dX8_letter_113 : decode cX8_letter 113 = .ok (.iadd, 1) := by decide +kernel
theorem dX8_letter_114 : decode cX8_letter 114 = .ok (.putfield 206, 3) := by decide +kernel
theorem dX8_letter_117 : decode cX8_letter 117 = .ok (.aload_n 0, 1) := by decide +kernel
theorem dX8_letter_118 : decode cX8_letter 118 = .ok (.iconst 3, 1) := by decide +kernel
theorem dX8_letter_119 : decode cX8_letter 119 = .ok (.iload_n 2, 1) := by decide +kernel
theorem dX8_letter_120 : decode cX8_letter 120 = .ok (.imul, 1) := by decide +kernel
theorem dX8_letter_121 : decode cX8_letter 121 = .ok (.iload_n 3, 1) := by decide +kernel
theorem dX8_letter_122 : decode cX8_letter 122 = .ok (.iadd, 1) := by decide +kernel
theorem dX8_letter_123 : decode cX8_letter 123 = .ok (.iload 4, 2) := by decide +kernel
theorem dX8_letter_125 : decode cX8_letter 125 = .ok (.iload 5, 2) := by decide +kernel
theorem dX8_letter_127 : decode cX8_letter 127 = .ok (.invokevirtual 209, 3) := by decide +kernel
theorem dX8_letter_130 : decode cX8_letter 130 = .ok (.ireturn, 1) := by decide +kernel
theorem dX8_mix_0 : decode cX8_mix 0 = .ok (.aload_n 0, 1) := by decide +kernel
theorem dX8_mix_1 : decode cX8_mix 1 = .ok (.getfield 47, 3) := by decide +kernel
theorem dX8_mix_4 : decode cX8_mix 4 = .ok (.iconst 1, 1) := by decide +kernel
theorem dX8_mix_5 : decode cX8_mix 5 = .ok (.iaload, 1) := by decide +kernel
theorem dX8_mix_6 : decode cX8_mix 6 = .ok (.bipush 31, 2) := by decide +kernel
theorem dX8_mix_8 : decode cX8_mix 8 = .ok (.imul, 1) := by decide +kernel
theorem dX8_mix_9 : decode cX8_mix 9 = .ok (.iload_n 1, 1) := by decide +kernel
theorem dX8_mix_10 : decode cX8_mix 10 = .ok (.bipush 17, 2) := by decide +kernel
theorem dX8_mix_12 : decode cX8_mix 12 = .ok (.imul, 1) := by decide +kernel
theorem dX8_mix_13 : decode cX8_mix 13 = .ok (.iadd, 1) := by decide +kernel
theorem dX8_mix_14 : decode cX8_mix 14 = .ok (.iload_n 2, 1) := by decide +kernel
theorem dX8_mix_15 : decode cX8_mix 15 = .ok (.iconst 3, 1) := by decide +kernel
theorem dX8_mix_16 : decode cX8_mix 16 = .ok (.idiv, 1) := by decide +kernel
theorem dX8_mix_17 : decode cX8_mix 17 = .ok (.bipush 7, 2) := by decide +kernel
theorem dX8_mix_19 : decode cX8_mix 19 = .ok (.imul, 1) := by decide +kernel
theorem dX8_mix_20 : decode cX8_mix 20 = .ok (.iadd, 1) := by decide +kernel
theorem dX8_mix_21 : decode cX8_mix 21 = .ok (.iload_n 2, 1) := by decide +kernel
theorem dX8_mix_22 : decode cX8_mix 22 = .ok (.iconst 3, 1) := by decide +kernel
theorem dX8_mix_23 : decode cX8_mix 23 = .ok (.irem, 1) := by decide +kernel
theorem dX8_mix_24 : decode cX8_mix 24 = .ok (.iconst 3, 1) := by decide +kernel
theorem dX8_mix_25 : decode cX8_mix 25 = .ok (.imul, 1) := by decide +kernel
theorem dX8_mix_26 : decode cX8_mix 26 = .ok (.iadd, 1) := by decide +kernel
theorem dX8_mix_27 : decode cX8_mix 27 = .ok (.sipush 997, 3) := by decide +kernel
theorem dX8_mix_30 : decode cX8_mix 30 = .ok (.irem, 1) := by decide +kernel
theorem dX8_mix_31 : decode cX8_mix 31 = .ok (.ireturn, 1) := by decide +kernel
set_option maxRecDepth 20000 in
theorem ggX8_flagOf_X8_mix : GoodIn wsX8_flagOf wsX8_mix := goodIn_r _ [5, 6, 7, 8, 9, 10, 11, 12, 13, 14, 15, 16, 17, 18, 19, 20, 21, 22, 23, 24, 25, 26, 27, 28, 29, 30, 31, 32, 33, 34, 35, 36, 37, 38, 39, 40, 41, 42, 43, 44, 45, 46, 47, 48, 49] (by decide +kernel) (by decide +kernel)
set_option maxRecDepth 20000 in
theorem gX8_flagOf_X8_mix : GoodIn wsX8_flagOf (wsV RX8 212 RX8 yX8_mix wsX8_mix) := goodIn_app (goodIn_of _ (by decide +kernel)) ggX8_flagOf_X8_mix
theorem dX8_flagOf_0 : decode cX8_flagOf 0 = .ok (.aload_n 0, 1) := by decide +kernel
theorem dX8_flagOf_1 : decode cX8_flagOf 1 = .ok (.iload_n 1, 1) := by decide +kernel
theorem dX8_flagOf_2 : decode cX8_flagOf 2 = .ok (.iload_n 2, 1) := by decide +kernel
theorem dX8_flagOf_3 : decode cX8_flagOf 3 = .ok (.invokevirtual 212, 3) := by decide +kernel
theorem dX8_flagOf_6 : decode cX8_flagOf 6 = .ok (.bipush 13, 2) := by decide +kernel
theorem dX8_flagOf_8 : decode cX8_flagOf 8 = .ok (.imul, 1) := by decide +kernel
theorem dX8_flagOf_9 : decode cX8_flagOf 9 = .ok (.sipush 1000, 3) := by decide +kernel
theorem dX8_flagOf_12 : decode cX8_flagOf 12 = .ok (.iadd, 1) := by decide +kernel
theorem dX8_flagOf_13 : decode cX8_flagOf 13 = .ok (.sipush 10000, 3) := by decide +kernel
theorem dX8_flagOf_16 : decode cX8_flagOf 16 = .ok (.irem, 1) := by decide +kernel
theorem dX8_flagOf_17 : decode cX8_flagOf 17 = .ok (.ireturn, 1) := by decide +kernel
set_option maxRecDepth 20000 in
theorem ggX8_checks_X8_mix : GoodIn wsX8_checks wsX8_mix := goodIn_r _ [11, 5, 50, 51, 52, 53, 54, 55, 56, 57, 58, 59, 60, 61, 62, 63, 64, 65, 66, 67, 68, 69, 70, 71, 72, 73, 74, 75, 76, 77, 78, 79, 80, 81, 82, 83, 84, 85, 86, 87, 88, 89, 90, 91, 92] (by decide +kernel) (by decide +kernel)
set_option maxRecDepth 20000 in
theorem gX8_checks_X8_mix : GoodIn wsX8_checks (wsV RX8 212 RX8 yX8_mix wsX8_mix) := goodIn_app (goodIn_of _ (by decide +kernel)) ggX8_checks_X8_mix
set_option maxRecDepth 20000 in
theorem ggX8_checks_X8_flagOf : GoodIn wsX8_checks wsX8_flagOf := goodIn_r _ [15, 7, 8, 9, 10, 11, 5, 50, 51, 52, 53, 54, 55, 56, 57, 58, 59, 60, 61, 62, 63, 64, 65, 66, 67, 68, 69, 70, 71, 72, 73, 74, 75, 76, 77, 78, 79, 80, 81, 82, 83, 84, 85, 86, 87, 88, 89, 90, 91, 92] (by decide +kernel) (by decide +kernel)
set_option maxRecDepth 20000 in
theorem gX8_checks_X8_flagOf : GoodIn wsX8_checks (wsV RX8 216 RX8 yX8_flagOf wsX8_flagOf) := goodIn_app (goodIn_of _ (by decide +kernel)) ggX8_checks_X8_flagOf
set_option maxRecDepth 20000 in
theorem ggX8_checks_X8_runs : GoodIn wsX8_checks wsX8_runs := goodIn_r _ [19, 20, 21, 22, 23, 24, 5, 25, 26, 27, 28, 29, 30, 31, 32, 33, 10, 34, 35, 36, 37, 38, 39, 40, 41, 42, 43, 44, 45, 46, 47, 48, 49, 50, 51, 52, 53, 54, 55, 56, 57, 58, 59, 60, 61, 62, 63, 64, 65, 66, 67, 68, 69, 70, 71, 72, 73, 74, 75, 76, 77, 78, 79, 80, 81, 82, 83, 84, 85, 86, 87, 88, 89, 90, 91, 92] (by decide +kernel) (by decide +kernel)
set_option maxRecDepth 20000 in
theorem gX8_checks_X8_runs : GoodIn wsX8_checks (wsV RX8 209 RX8 yX8_runs wsX8_runs) := goodIn_app (goodIn_of _ (by decide +kernel)) ggX8_checks_X8_runs
theorem dX8_checks_0 : decode cX8_checks 0 = .ok (.aload_n 0, 1) := by decide +kernel
theorem dX8_checks_1 : decode cX8_checks 1 = .ok (.iload_n 1, 1) := by decide +kernel
theorem dX8_checks_2 : decode cX8_checks 2 = .ok (.iload_n 2, 1) := by decide +kernel
theorem dX8_checks_3 : decode cX8_checks 3 = .ok (.invokevirtual 212, 3) := by decide +kernel
theorem dX8_checks_6 : decode cX8_checks 6 = .ok (.istore_n 3, 1) := by decide +kernel
theorem dX8_checks_7 : decode cX8_checks 7 = .ok (.iconst 1, 1) := by decide +kernel
theorem dX8_checks_8 : decode cX8_checks 8 = .ok (.istore 4, 2) := by decide +kernel
theorem dX8_checks_10 : decode cX8_checks 10 = .ok (.iconst 0, 1) := by decide +kernel
theorem dX8_checks_11 : decode cX8_checks 11 = .ok (.istore 5, 2) := by decide +kernel
theorem dX8_checks_13 : decode cX8_checks 13 = .ok (.iconst 0, 1) := by decide +kernel
theorem dX8_checks_14 : decode cX8_checks 14 = .ok (.istore 6, 2) := by decide +kernel
theorem dX8_checks_16 : decode cX8_checks 16 = .ok (.iload 6, 2) := by decide +kernel
theorem dX8_checks_18 : decode cX8_checks 18 = .ok (.iconst 3, 1) := by decide +kernel
theorem dX8_checks_19 : decode cX8_checks 19 = .ok (.if_icmp .ge 270, 3) := by decide +kernel
theorem dX8_checks_22 : decode cX8_checks 22 = .ok (.aload_n 0, 1) := by decide +kernel
theorem dX8_checks_23 : decode cX8_checks 23 = .ok (.getfield 86, 3) := by decide +kernel
theorem dX8_checks_26 : decode cX8_checks 26 = .ok (.iconst 3, 1) := by decide +kernel
theorem dX8_checks_27 : decode cX8_checks 27 = .ok (.iload_n 3, 1) := by decide +kernel
theorem dX8_checks_28 : decode cX8_checks 28 = .ok (.bipush 6, 2) := by decide +kernel
theorem dX8_checks_30 : decode cX8_checks 30 = .ok (.irem, 1) := by decide +kernel
theorem dX8_checks_31 : decode cX8_checks 31 = .ok (.imul, 1) := by decide +kernel
theorem dX8_checks_32 : decode cX8_checks 32 = .ok (.iload 6, 2) := by decide +kernel
theorem dX8_checks_34 : decode cX8_checks 34 = .ok (.iadd, 1) := by decide +kernel
theorem dX8_checks_35 : decode cX8_checks 35 = .ok (.iaload, 1) := by decide +kernel
theorem dX8_checks_36 : decode cX8_checks 36 = .ok (.istore 7, 2) := by decide +kernel
theorem dX8_checks_38 : decode cX8_checks 38 = .ok (.iconst 3, 1) := by decide +kernel
theorem dX8_checks_39 : decode cX8_checks 39 = .ok (.iload_n 2, 1) := by decide +kernel
theorem dX8_checks_40 : decode cX8_checks 40 = .ok (.imul, 1) := by decide +kernel
theorem dX8_checks_41 : decode cX8_checks 41 = .ok (.iload 6, 2) := by decide +kernel
theorem dX8_checks_43 : decode cX8_checks 43 = .ok (.iadd, 1) := by decide +kernel
theorem dX8_checks_44 : decode cX8_checks 44 = .ok (.istore 8, 2) := by decide +kernel
theorem dX8_checks_46 : decode cX8_checks 46 = .ok (.aload_n 0, 1) := by decide +kernel
theorem dX8_checks_47 : decode cX8_checks 47 = .ok (.getfield 74, 3) := by decide +kernel
theorem dX8_checks_50 : decode cX8_checks 50 = .ok (.iload 8, 2) := by decide +kernel
theorem dX8_checks_52 : decode cX8_checks 52 = .ok (.iload 7, 2) := by decide +kernel
theorem dX8_checks_54 : decode cX8_checks 54 = .ok (.iastore, 1) := by decide +kernel
theorem dX8_checks_55 : decode cX8_checks 55 = .ok (.aload_n 0, 1) := by decide +kernel
theorem dX8_checks_56 : decode cX8_checks 56 = .ok (.getfield 77, 3) := by decide +kernel
theorem dX8_checks_59 : decode cX8_checks 59 = .ok (.iload 8, 2) := by decide +kernel
theorem dX8_checks_61 : decode cX8_checks 61 = .ok (.iload 7, 2) := by decide +kernel
theorem dX8_checks_63 : decode cX8_checks 63 = .ok (.ifCond .ne 7, 3) := by decide +kernel
theorem dX8_checks_66 : decode cX8_checks 66 = .ok (.iload_n 3, 1) := by decide +kernel
theorem dX8_checks_67 : decode cX8_checks 67 = .ok (.goto 19, 3) := by decide +kernel
theorem dX8_checks_70 : decode cX8_checks 70 = .ok (.iload 7, 2) := by decide +kernel
theorem dX8_checks_72 : decode cX8_checks 72 = .ok (.iconst 1, 1) := by decide +kernel
theorem dX8_checks_73 : decode cX8_checks 73 = .ok (.if_icmp .ne 12, 3) := by decide +kernel
theorem dX8_checks_76 : decode cX8_checks 76 = .ok (.aload_n 0, 1) := by decide +kernel
theorem dX8_checks_77 : decode cX8_checks 77 = .ok (.iload_n 1, 1) := by decide +kernel
theorem dX8_checks_78 : decode cX8_checks 78 = .ok (.iload_n 2, 1) := by decide +kernel
theorem dX8_checks_79 : decode cX8_checks 79 = .ok (.invokevirtual 216, 3) := by decide +kernel
theorem dX8_checks_82 : decode cX8_checks 82 = .ok (.goto 4, 3) := by decide +kernel
theorem dX8_checks_85 : decode cX8_checks 85 = .ok (.iconst 0, 1) := by decide +kernel
theorem dX8_checks_86 : decode cX8_checks 86 = .ok (.iastore, 1) := by decide +kernel
theorem dX8_checks_87 : decode cX8_checks 87 = .ok (.aload_n 0, 1) := by decide +kernel
theorem dX8_checks_88 : decode cX8_checks 88 = .ok (.getfield 80, 3) := by decide +kernel
theorem dX8_checks_91 : decode cX8_checks 91 = .ok (.iload 8, 2) := by decide +kernel
theorem dX8_checks_93 : decode cX8_checks 93 = .ok (.aload_n 0, 1) := by decide +kernel
theorem dX8_checks_94 : decode cX8_checks 94 = .ok (.iload_n 2, 1) := by decide +kernel
theorem dX8_checks_95 : decode cX8_checks 95 = .ok (.iload 7, 2) := by decide +kernel
theorem dX8_checks_97 : decode cX8_checks 97 = .ok (.iconst 1, 1) := by decide +kernel
theorem dX8_checks_98 : decode cX8_checks 98 = .ok (.iadd, 1) := by decide +kernel
theorem dX8_checks_99 : decode cX8_checks 99 = .ok (.aload_n 0, 1) := by decide +kernel
theorem dX8_checks_100 : decode cX8_checks 100 = .ok (.getfield 77, 3) := by decide +kernel
theorem dX8_checks_103 : decode cX8_checks 103 = .ok (.iload 8, 2) := by decide +kernel
theorem dX8_checks_105 : decode cX8_checks 105 = .ok (.iaload, 1) := by decide +kernel
theorem dX8_checks_106 : decode cX8_checks 106 = .ok (.invokevirtual 209, 3) := by decide +kernel
theorem dX8_checks_109 : decode cX8_checks 109 = .ok (.iastore, 1) := by decide +kernel
theorem dX8_checks_110 : decode cX8_checks 110 = .ok (.iload 7, 2) := by decide +kernel
theorem dX8_checks_112 : decode cX8_checks 112 = .ok (.ifCond .ne 37, 3) := by decide +kernel
theorem dX8_checks_115 : decode cX8_checks 115 = .ok (.aload_n 0, 1) := by decide +kernel
theorem dX8_checks_116 : decode cX8_checks 116 = .ok (.getfield 80, 3) := by decide +kernel
theorem dX8_checks_119 : decode cX8_checks 119 = .ok (.iload 8, 2) := by decide +kernel
theorem dX8_checks_121 : decode cX8_checks 121 = .ok (.iaload, 1) := by decide +kernel
theorem dX8_checks_122 : decode cX8_checks 122 = .ok (.iload_n 3, 1) := by decide +kernel
theorem dX8_checks_123 : decode cX8_checks 123 = .ok (.aload_n 0, 1) := by decide +kernel
theorem dX8_checks_124 : decode cX8_checks 124 = .ok (.getfield 47, 3) := by decide +kernel
theorem dX8_checks_127 : decode cX8_checks 127 = .ok (.iconst 4, 1) := by decide +kernel
theorem dX8_checks_128 : decode cX8_checks 128 = .ok (.iload_n 2, 1) := by decide +kernel
theorem dX8_checks_129 : decode cX8_checks 129 = .ok (.iconst 3, 1) := by decide +kernel
theorem dX8_checks_130 : decode cX8_checks 130 = .ok (.irem, 1) := by decide +kernel
theorem dX8_checks_131 : decode cX8_checks 131 = .ok (.iadd, 1) := by decide +kernel
theorem dX8_checks_132 : decode cX8_checks 132 = .ok (.iaload, 1) := by decide +kernel
theorem dX8_checks_133 : decode cX8_checks 133 = .ok (.iadd, 1) := by decide +kernel
theorem dX8_checks_134 : decode cX8_checks 134 = .ok (.sipush 10000, 3) := by decide +kernel
theorem dX8_checks_137 : decode cX8_checks 137 = .ok (.irem, 1) := by decide +kernel
theorem dX8_checks_138 : decode cX8_checks 138 = .ok (.if_icmp .ne 7, 3) := by decide +kernel
theorem dX8_checks_141 : decode cX8_checks 141 = .ok (.iconst 1, 1) := by decide +kernel
theorem dX8_checks_142 : decode cX8_checks 142 = .ok (.goto 87, 3) := by decide +kernel
theorem dX8_checks_145 : decode cX8_checks 145 = .ok (.iconst 0, 1) := by decide +kernel
theorem dX8_checks_146 : decode cX8_checks 146 = .ok (.goto 83, 3) := by decide +kernel
theorem dX8_checks_149 : decode cX8_checks 149 = .ok (.iload 7, 2) := by decide +kernel
theorem dX8_checks_151 : decode cX8_checks 151 = .ok (.iconst 1, 1) := by decide +kernel
theorem dX8_checks_152 : decode cX8_checks 152 = .ok (.if_icmp .ne 21, 3) := by decide +kernel
theorem dX8_checks_155 : decode cX8_checks 155 = .ok (.aload_n 0, 1) := by decide +kernel
theorem dX8_checks_156 : decode cX8_checks 156 = .ok (.getfield 80, 3) := by decide +kernel
theorem dX8_checks_159 : decode cX8_checks 159 = .ok (.iload 8, 2) := by decide +kernel
theorem dX8_checks_161 : decode cX8_checks 161 = .ok (.iaload, 1) := by decide +kernel
theorem dX8_checks_162 : decode cX8_checks 162 = .ok (.ifCond .ne 7, 3) := by decide +kernel
theorem dX8_checks_165 : decode cX8_checks 165 = .ok (.iconst 1, 1) := by decide +kernel
theorem dX8_checks_166 : decode cX8_checks 166 = .ok (.goto 63, 3) := by decide +kernel
theorem dX8_checks_169 : decode cX8_checks 169 = .ok (.iconst 0, 1) := by decide +kernel
theorem dX8_checks_170 : decode cX8_checks 170 = .ok (.goto 59, 3) := by decide +kernel
theorem dX8_checks_173 : decode cX8_checks 173 = .ok (.iload 5, 2) := by decide +kernel
theorem dX8_checks_175 : decode cX8_checks 175 = .ok (.ifCond .eq 27, 3) := by decide +kernel
theorem dX8_checks_178 : decode cX8_checks 178 = .ok (.aload_n 0, 1) := by decide +kernel
theorem dX8_checks_179 : decode cX8_checks 179 = .ok (.getfield 80, 3) := by decide +kernel
theorem dX8_checks_182 : decode cX8_checks 182 = .ok (.iload 8, 2) := by decide +kernel
theorem dX8_checks_184 : decode cX8_checks 184 = .ok (.iaload, 1) := by decide +kernel
theorem dX8_checks_185 : decode cX8_checks 185 = .ok (.aload_n 0, 1) := by decide +kernel
theorem dX8_checks_186 : decode cX8_checks 186 = .ok (.iload_n 1, 1) := by decide +kernel
theorem dX8_checks_187 : decode cX8_checks 187 = .ok (.iload_n 2, 1) := by decide +kernel
theorem dX8_checks_188 : decode cX8_checks 188 = .ok (.invokevirtual 216, 3) := by decide +kernel
theorem dX8_checks_191 : decode cX8_checks 191 = .ok (.if_icmp .ne 7, 3) := by decide +kernel
theorem dX8_checks_194 : decode cX8_checks 194 = .ok (.iconst 1, 1) := by decide +kernel
theorem dX8_checks_195 : decode cX8_checks 195 = .ok (.goto 34, 3) := by decide +kernel
theorem dX8_checks_198 : decode cX8_checks 198 = .ok (.iconst 0, 1) := by decide +kernel
theorem dX8_checks_199 : decode cX8_checks 199 = .ok (.goto 30, 3) := by decide +kernel
theorem dX8_checks_202 : decode cX8_checks 202 = .ok (.iload_n 1, 1) := by decide +kernel
theorem dX8_checks_203 : decode cX8_checks 203 = .ok (.ifCond .eq 21, 3) := by decide +kernel
theorem dX8_checks_206 : decode cX8_checks 206 = .ok (.aload_n 0, 1) := by decide +kernel
theorem dX8_checks_207 : decode cX8_checks 207 = .ok (.getfield 80, 3) := by decide +kernel
theorem dX8_checks_210 : decode cX8_checks 210 = .ok (.iload 8, 2) := by decide +kernel
theorem dX8_checks_212 : decode cX8_checks 212 = .ok (.iaload, 1) := by decide +kernel
theorem dX8_checks_213 : decode cX8_checks 213 = .ok (.aload_n 0, 1) := by decide +kernel
theorem dX8_checks_214 : decode cX8_checks 214 = .ok (.iload_n 1, 1) := by decide +kernel
theorem dX8_checks_215 : decode cX8_checks 215 = .ok (.iconst 1, 1) := by decide +kernel
theorem dX8_checks_216 : decode cX8_checks 216 = .ok (.isub, 1) := by decide +kernel
theorem dX8_checks_217 : decode cX8_checks 217 = .ok (.iload_n 2, 1) := by decide +kernel
theorem dX8_checks_218 : decode cX8_checks 218 = .ok (.invokevirtual 216, 3) := by decide +kernel
theorem dX8_checks_221 : decode cX8_checks 221 = .ok (.if_icmp .ne 7, 3) := by decide +kernel
theorem dX8_checks_224 : decode cX8_checks 224 = .ok (.iconst 1, 1) := by decide +kernel
theorem dX8_checks_225 : decode cX8_checks 225 = .ok (.goto 4, 3) := by decide +kernel
theorem dX8_checks_228 : decode cX8_checks 228 = .ok (.iconst 0, 1) := by decide +kernel
theorem dX8_checks_229 : decode cX8_checks 229 = .ok (.istore 9, 2) := by decide +kernel
theorem dX8_checks_231 : decode cX8_checks 231 = .ok (.iload 5, 2) := by decide +kernel
theorem dX8_checks_233 : decode cX8_checks 233 = .ok (.ifCond .ne 9, 3) := by decide +kernel
theorem dX8_checks_236 : decode cX8_checks 236 = .ok (.iload 7, 2) := by decide +kernel
theorem dX8_checks_238 : decode cX8_checks 238 = .ok (.iconst 1, 1) := by decide +kernel
theorem dX8_checks_239 : decode cX8_checks 239 = .ok (.if_icmp .ne 7, 3) := by decide +kernel
theorem dX8_checks_242 : decode cX8_checks 242 = .ok (.iconst 1, 1) := by decide +kernel
theorem dX8_checks_243 : decode cX8_checks 243 = .ok (.goto 4, 3) := by decide +kernel
theorem dX8_checks_246 : decode cX8_checks 246 = .ok (.iconst 0, 1) := by decide +kernel
theorem dX8_checks_247 : decode cX8_checks 247 = .ok (.istore 5, 2) := by decide +kernel
theorem dX8_checks_249 : decode cX8_checks 249 = .ok (.aload_n 0, 1) := by decide +kernel
theorem dX8_checks_250 : decode cX8_checks 250 = .ok (.getfield 83, 3) := by decide +kernel
theorem dX8_checks_253 : decode cX8_checks 253 = .ok (.iload 8, 2) := by decide +kernel
theorem dX8_checks_255 : decode cX8_checks 255 = .ok (.iload 9, 2) := by decide +kernel
theorem dX8_checks_257 : decode cX8_checks 257 = .ok (.ifCond .eq 7, 3) := by decide +kernel
theorem dX8_checks_260 : decode cX8_checks 260 = .ok (.iconst 1, 1) := by decide +kernel
theorem dX8_checks_261 : decode cX8_checks 261 = .ok (.goto 4, 3) := by decide +kernel
theorem dX8_checks_264 : decode cX8_checks 264 = .ok (.iconst 0, 1) := by decide +kernel
theorem dX8_checks_265 : decode cX8_checks 265 = .ok (.iastore, 1) := by decide +kernel
theorem dX8_checks_266 : decode cX8_checks 266 = .ok (.iload 4, 2) := by decide +kernel
theorem dX8_checks_268 : decode cX8_checks 268 = .ok (.ifCond .eq 12, 3) := by decide +kernel
theorem dX8_checks_271 : decode cX8_checks 271 = .ok (.iload 9, 2) := by decide +kernel
theorem dX8_checks_273 : decode cX8_checks 273 = .ok (.ifCond .eq 7, 3) := by decide +kernel
theorem dX8_checks_276 : decode cX8_checks 276 = .ok (.iconst 1, 1) := by decide +kernel
theorem dX8_checks_277 : decode cX8_checks 277 = .ok (.goto 4, 3) := by decide +kernel
theorem dX8_checks_280 : decode cX8_checks 280 = .ok (.iconst 0, 1) := by decide +kernel
theorem dX8_checks_281 : decode cX8_checks 281 = .ok (.istore 4, 2) := by decide +kernel
theorem dX8_checks_283 : decode cX8_checks 283 = .ok (.iinc 6 1, 3) := by decide +kernel
theorem dX8_checks_286 : decode cX8_checks 286 = .ok (.goto (-270), 3) := by decide +kernel
theorem dX8_checks_289 : decode cX8_checks 289 = .ok (.iload 4, 2) := by decide +kernel
theorem dX8_checks_291 : decode cX8_checks 291 = .ok (.ireturn, 1) := by decide +kernel
set_option maxRecDepth 20000 in
theorem ggX8_round_X8_checks : GoodIn wsX8_round wsX8_checks := goodIn_r _ [21, 22, 23, 24, 25, 26, 27, 28, 29, 30, 20, 31, 32, 33, 34, 35, 36, 37, 38, 39, 40, 41, 42, 43, 14, 44, 45, 46, 12, 47, 48, 13, 49, 50, 51, 52, 53, 54, 55, 56, 57, 58, 59, 60, 61, 62, 63, 64, 65, 66, 67, 68, 69, 70, 71, 72, 73, 74, 75, 76, 77, 78, 79, 80, 81, 82, 83, 84, 85, 86, 87, 88, 89, 90, 91, 92, 93, 94, 95, 96, 97, 98, 99, 100, 101, 102, 103, 104, 105, 106, 107, 108, 109] (by decide +kernel) (by decide +kernel)
set_option maxRecDepth 20000 in
theorem gX8_round_X8_checks : GoodIn wsX8_round (wsV RX8 222 RX8 yX8_checks wsX8_checks) := goodIn_app (goodIn_of _ (by decide +kernel)) ggX8_round_X8_checks
theorem dX8_round_0 : decode cX8_round 0 = .ok (.aload_n 0, 1) := by decide +kernel
