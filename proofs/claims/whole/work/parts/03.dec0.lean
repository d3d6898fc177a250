theorem dX0_init_0 : decode cX0_init 0 = .ok (.aload_n 0, 1) := by decide +kernel
theorem dX0_init_1 : decode cX0_init 1 = .ok (.invokespecial 1, 3) := by decide +kernel
theorem dX0_init_4 : decode cX0_init 4 = .ok (.aload_n 0, 1) := by decide +kernel
theorem dX0_init_5 : decode cX0_init 5 = .ok (.iload_n 1, 1) := by decide +kernel
theorem dX0_init_6 : decode cX0_init 6 = .ok (.putfield 7, 3) := by decide +kernel
theorem dX0_init_9 : decode cX0_init 9 = .ok (.aload_n 0, 1) := by decide +kernel
theorem dX0_init_10 : decode cX0_init 10 = .ok (.aload_n 2, 1) := by decide +kernel
theorem dX0_init_11 : decode cX0_init 11 = .ok (.putfield 13, 3) := by decide +kernel
theorem dX0_init_14 : decode cX0_init 14 = .ok (.aload_n 0, 1) := by decide +kernel
theorem dX0_init_15 : decode cX0_init 15 = .ok (.iload_n 3, 1) := by decide +kernel
theorem dX0_init_16 : decode cX0_init 16 = .ok (.putfield 17, 3) := by decide +kernel
theorem dX0_init_19 : decode cX0_init 19 = .ok (.return_, 1) := by decide +kernel
theorem dX1_init_0 : decode cX1_init 0 = .ok (.aload_n 0, 1) := by decide +kernel
theorem dX1_init_1 : decode cX1_init 1 = .ok (.invokespecial 3, 3) := by decide +kernel
theorem dX1_init_4 : decode cX1_init 4 = .ok (.aload_n 0, 1) := by decide +kernel
theorem dX1_init_5 : decode cX1_init 5 = .ok (.bipush 8, 2) := by decide +kernel
theorem dX1_init_7 : decode cX1_init 7 = .ok (.newarray .int, 2) := by decide +kernel
theorem dX1_init_9 : decode cX1_init 9 = .ok (.putfield 9, 3) := by decide +kernel
theorem dX1_init_12 : decode cX1_init 12 = .ok (.aload_n 0, 1) := by decide +kernel
theorem dX1_init_13 : decode cX1_init 13 = .ok (.bipush 8, 2) := by decide +kernel
theorem dX1_init_15 : decode cX1_init 15 = .ok (.newarray .int, 2) := by decide +kernel
theorem dX1_init_17 : decode cX1_init 17 = .ok (.putfield 15, 3) := by decide +kernel
theorem dX1_init_20 : decode cX1_init 20 = .ok (.return_, 1) := by decide +kernel
set_option maxRecDepth 20000 in
theorem ggX1_deliver_X1_run : GoodIn wsX1_deliver wsX1_run := goodIn_r _ [13, 14, 15, 16, 8, 17, 18, 19, 12, 20, 21, 22, 23, 24, 25, 26, 27, 28, 6, 7, 29, 30, 31, 32, 33, 34, 35, 36, 37, 38, 39, 60, 61, 62, 54, 55, 56, 57, 58, 59] (by decide +kernel) (by decide +kernel)
set_option maxRecDepth 20000 in
theorem gX1_deliver_X1_run : GoodIn wsX1_deliver (wsV RX1 43 RX1 yX1_run wsX1_run) := goodIn_app (goodIn_of _ (by decide +kernel)) ggX1_deliver_X1_run
theorem dX1_deliver_0 : decode cX1_deliver 0 = .ok (.aload_n 1, 1) := by decide +kernel
theorem dX1_deliver_1 : decode cX1_deliver 1 = .ok (.getfield 18, 3) := by decide +kernel
theorem dX1_deliver_4 : decode cX1_deliver 4 = .ok (.ifnonnull 7, 3) := by decide +kernel
theorem dX1_deliver_7 : decode cX1_deliver 7 = .ok (.sipush 10000, 3) := by decide +kernel
theorem dX1_deliver_10 : decode cX1_deliver 10 = .ok (.ireturn, 1) := by decide +kernel
theorem dX1_deliver_11 : decode cX1_deliver 11 = .ok (.aload_n 1, 1) := by decide +kernel
theorem dX1_deliver_12 : decode cX1_deliver 12 = .ok (.getfield 24, 3) := by decide +kernel
theorem dX1_deliver_15 : decode cX1_deliver 15 = .ok (.iconst 0, 1) := by decide +kernel
theorem dX1_deliver_16 : decode cX1_deliver 16 = .ok (.aload_n 0, 1) := by decide +kernel
theorem dX1_deliver_17 : decode cX1_deliver 17 = .ok (.getfield 15, 3) := by decide +kernel
theorem dX1_deliver_20 : decode cX1_deliver 20 = .ok (.iconst 0, 1) := by decide +kernel
theorem dX1_deliver_21 : decode cX1_deliver 21 = .ok (.bipush 8, 2) := by decide +kernel
theorem dX1_deliver_23 : decode cX1_deliver 23 = .ok (.invokestatic 27, 3) := by decide +kernel
theorem dX1_deliver_26 : decode cX1_deliver 26 = .ok (.aload_n 0, 1) := by decide +kernel
theorem dX1_deliver_27 : decode cX1_deliver 27 = .ok (.iload_n 2, 1) := by decide +kernel
theorem dX1_deliver_28 : decode cX1_deliver 28 = .ok (.putfield 33, 3) := by decide +kernel
theorem dX1_deliver_31 : decode cX1_deliver 31 = .ok (.aload_n 0, 1) := by decide +kernel
theorem dX1_deliver_32 : decode cX1_deliver 32 = .ok (.iload_n 3, 1) := by decide +kernel
theorem dX1_deliver_33 : decode cX1_deliver 33 = .ok (.putfield 37, 3) := by decide +kernel
theorem dX1_deliver_36 : decode cX1_deliver 36 = .ok (.aload_n 0, 1) := by decide +kernel
theorem dX1_deliver_37 : decode cX1_deliver 37 = .ok (.iconst 0, 1) := by decide +kernel
theorem dX1_deliver_38 : decode cX1_deliver 38 = .ok (.putfield 40, 3) := by decide +kernel
theorem dX1_deliver_41 : decode cX1_deliver 41 = .ok (.aload_n 0, 1) := by decide +kernel
theorem dX1_deliver_42 : decode cX1_deliver 42 = .ok (.aload_n 1, 1) := by decide +kernel
theorem dX1_deliver_43 : decode cX1_deliver 43 = .ok (.getfield 18, 3) := by decide +kernel
theorem dX1_deliver_46 : decode cX1_deliver 46 = .ok (.aload_n 1, 1) := by decide +kernel
theorem dX1_deliver_47 : decode cX1_deliver 47 = .ok (.getfield 24, 3) := by decide +kernel
theorem dX1_deliver_50 : decode cX1_deliver 50 = .ok (.iload 4, 2) := by decide +kernel
theorem dX1_deliver_52 : decode cX1_deliver 52 = .ok (.invokevirtual 43, 3) := by decide +kernel
theorem dX1_deliver_55 : decode cX1_deliver 55 = .ok (.istore 5, 2) := by decide +kernel
theorem dX1_deliver_57 : decode cX1_deliver 57 = .ok (.iload 5, 2) := by decide +kernel
theorem dX1_deliver_59 : decode cX1_deliver 59 = .ok (.sipush 10002, 3) := by decide +kernel
theorem dX1_deliver_62 : decode cX1_deliver 62 = .ok (.if_icmp .ne 31, 3) := by decide +kernel
theorem dX1_deliver_65 : decode cX1_deliver 65 = .ok (.aload_n 0, 1) := by decide +kernel
theorem dX1_deliver_66 : decode cX1_deliver 66 = .ok (.getfield 15, 3) := by decide +kernel
theorem dX1_deliver_69 : decode cX1_deliver 69 = .ok (.iconst 0, 1) := by decide +kernel
theorem dX1_deliver_70 : decode cX1_deliver 70 = .ok (.aload_n 1, 1) := by decide +kernel
theorem dX1_deliver_71 : decode cX1_deliver 71 = .ok (.getfield 24, 3) := by decide +kernel
theorem dX1_deliver_74 : decode cX1_deliver 74 = .ok (.iconst 0, 1) := by decide +kernel
theorem dX1_deliver_75 : decode cX1_deliver 75 = .ok (.bipush 8, 2) := by decide +kernel
theorem dX1_deliver_77 : decode cX1_deliver 77 = .ok (.invokestatic 27, 3) := by decide +kernel
theorem dX1_deliver_80 : decode cX1_deliver 80 = .ok (.aload_n 1, 1) := by decide +kernel
theorem dX1_deliver_81 : decode cX1_deliver 81 = .ok (.dup, 1) := by decide +kernel
theorem dX1_deliver_82 : decode cX1_deliver 82 = .ok (.getfield 47, 3) := by decide +kernel
theorem dX1_deliver_85 : decode cX1_deliver 85 = .ok (.iconst 1, 1) := by decide +kernel
theorem dX1_deliver_86 : decode cX1_deliver 86 = .ok (.iadd, 1) := by decide +kernel
theorem dX1_deliver_87 : decode cX1_deliver 87 = .ok (.putfield 47, 3) := by decide +kernel
theorem dX1_deliver_90 : decode cX1_deliver 90 = .ok (.goto 21, 3) := by decide +kernel
theorem dX1_deliver_93 : decode cX1_deliver 93 = .ok (.iload 5, 2) := by decide +kernel
theorem dX1_deliver_95 : decode cX1_deliver 95 = .ok (.sipush 10001, 3) := by decide +kernel
theorem dX1_deliver_98 : decode cX1_deliver 98 = .ok (.if_icmp .ne 13, 3) := by decide +kernel
theorem dX1_deliver_101 : decode cX1_deliver 101 = .ok (.aload_n 1, 1) := by decide +kernel
theorem dX1_deliver_102 : decode cX1_deliver 102 = .ok (.dup, 1) := by decide +kernel
theorem dX1_deliver_103 : decode cX1_deliver 103 = .ok (.getfield 50, 3) := by decide +kernel
theorem dX1_deliver_106 : decode cX1_deliver 106 = .ok (.iconst 1, 1) := by decide +kernel
theorem dX1_deliver_107 : decode cX1_deliver 107 = .ok (.iadd, 1) := by decide +kernel
theorem dX1_deliver_108 : decode cX1_deliver 108 = .ok (.putfield 50, 3) := by decide +kernel
theorem dX1_deliver_111 : decode cX1_deliver 111 = .ok (.iload 5, 2) := by decide +kernel
theorem dX1_deliver_113 : decode cX1_deliver 113 = .ok (.ireturn, 1) := by decide +kernel
set_option maxRecDepth 20000 in
theorem ggX1_run_X1_pileSuits : GoodIn wsX1_run wsX1_pileSuits := goodIn_r _ [9, 4, 34, 35, 36, 37, 38, 39] (by decide +kernel) (by decide +kernel)
set_option maxRecDepth 20000 in
theorem gX1_run_X1_pileSuits : GoodIn wsX1_run (wsV RX1 68 RX1 yX1_pileSuits wsX1_pileSuits) := goodIn_app (goodIn_of _ (by decide +kernel)) ggX1_run_X1_pileSuits
set_option maxRecDepth 20000 in
theorem ggX1_run_X1_pull : GoodIn wsX1_run wsX1_pull := goodIn_r _ [13, 4, 3, 34, 35, 36, 37, 38, 39] (by decide +kernel) (by decide +kernel)
set_option maxRecDepth 20000 in
theorem gX1_run_X1_pull : GoodIn wsX1_run (wsV RX1 72 RX1 yX1_pull wsX1_pull) := goodIn_app (goodIn_of _ (by decide +kernel)) ggX1_run_X1_pull
set_option maxRecDepth 20000 in
theorem ggX1_run_X1_act : GoodIn wsX1_run wsX1_act := goodIn_r _ [17, 18, 19, 20, 21, 22, 8, 23, 4, 3, 10, 11, 12, 13, 24, 25, 26, 27, 28, 29, 30, 34, 35, 36, 37, 38, 39] (by decide +kernel) (by decide +kernel)
set_option maxRecDepth 20000 in
theorem gX1_run_X1_act : GoodIn wsX1_run (wsV RX1 76 RX1 yX1_act wsX1_act) := goodIn_app (goodIn_of _ (by decide +kernel)) ggX1_run_X1_act
theorem dX1_run_0 : decode cX1_run 0 = .ok (.iconst 0, 1) := by decide +kernel
theorem dX1_run_1 : decode cX1_run 1 = .ok (.istore 4, 2) := by decide +kernel
theorem dX1_run_3 : decode cX1_run 3 = .ok (.iconst 0, 1) := by decide +kernel
theorem dX1_run_4 : decode cX1_run 4 = .ok (.istore 5, 2) := by decide +kernel
theorem dX1_run_6 : decode cX1_run 6 = .ok (.iload 5, 2) := by decide +kernel
theorem dX1_run_8 : decode cX1_run 8 = .ok (.iload_n 3, 1) := by decide +kernel
theorem dX1_run_9 : decode cX1_run 9 = .ok (.if_icmp .ge 145, 3) := by decide +kernel
theorem dX1_run_12 : decode cX1_run 12 = .ok (.iload 4, 2) := by decide +kernel
theorem dX1_run_14 : decode cX1_run 14 = .ok (.aload_n 1, 1) := by decide +kernel
theorem dX1_run_15 : decode cX1_run 15 = .ok (.getfield 53, 3) := by decide +kernel
theorem dX1_run_18 : decode cX1_run 18 = .ok (.if_icmp .ge 136, 3) := by decide +kernel
theorem dX1_run_21 : decode cX1_run 21 = .ok (.aload_n 1, 1) := by decide +kernel
theorem dX1_run_22 : decode cX1_run 22 = .ok (.getfield 58, 3) := by decide +kernel
theorem dX1_run_25 : decode cX1_run 25 = .ok (.iload 4, 2) := by decide +kernel
theorem dX1_run_27 : decode cX1_run 27 = .ok (.iaload, 1) := by decide +kernel
theorem dX1_run_28 : decode cX1_run 28 = .ok (.istore 6, 2) := by decide +kernel
theorem dX1_run_30 : decode cX1_run 30 = .ok (.aload_n 1, 1) := by decide +kernel
theorem dX1_run_31 : decode cX1_run 31 = .ok (.getfield 61, 3) := by decide +kernel
theorem dX1_run_34 : decode cX1_run 34 = .ok (.iload 4, 2) := by decide +kernel
theorem dX1_run_36 : decode cX1_run 36 = .ok (.iaload, 1) := by decide +kernel
theorem dX1_run_37 : decode cX1_run 37 = .ok (.istore 7, 2) := by decide +kernel
theorem dX1_run_39 : decode cX1_run 39 = .ok (.aload_n 0, 1) := by decide +kernel
theorem dX1_run_40 : decode cX1_run 40 = .ok (.aload_n 0, 1) := by decide +kernel
theorem dX1_run_41 : decode cX1_run 41 = .ok (.getfield 64, 3) := by decide +kernel
theorem dX1_run_44 : decode cX1_run 44 = .ok (.iconst 1, 1) := by decide +kernel
theorem dX1_run_45 : decode cX1_run 45 = .ok (.iadd, 1) := by decide +kernel
theorem dX1_run_46 : decode cX1_run 46 = .ok (.ldc 67, 2) := by decide +kernel
theorem dX1_run_48 : decode cX1_run 48 = .ok (.irem, 1) := by decide +kernel
theorem dX1_run_49 : decode cX1_run 49 = .ok (.putfield 64, 3) := by decide +kernel
theorem dX1_run_52 : decode cX1_run 52 = .ok (.aload_n 0, 1) := by decide +kernel
theorem dX1_run_53 : decode cX1_run 53 = .ok (.iload 6, 2) := by decide +kernel
theorem dX1_run_55 : decode cX1_run 55 = .ok (.invokevirtual 68, 3) := by decide +kernel
theorem dX1_run_58 : decode cX1_run 58 = .ok (.ifCond .ne 7, 3) := by decide +kernel
theorem dX1_run_61 : decode cX1_run 61 = .ok (.sipush 10002, 3) := by decide +kernel
theorem dX1_run_64 : decode cX1_run 64 = .ok (.ireturn, 1) := by decide +kernel
theorem dX1_run_65 : decode cX1_run 65 = .ok (.iload 6, 2) := by decide +kernel
theorem dX1_run_67 : decode cX1_run 67 = .ok (.bipush 111, 2) := by decide +kernel
theorem dX1_run_69 : decode cX1_run 69 = .ok (.if_icmp .ne 15, 3) := by decide +kernel
theorem dX1_run_72 : decode cX1_run 72 = .ok (.aload_n 0, 1) := by decide +kernel
theorem dX1_run_73 : decode cX1_run 73 = .ok (.getfield 9, 3) := by decide +kernel
theorem dX1_run_76 : decode cX1_run 76 = .ok (.aload_n 0, 1) := by decide +kernel
theorem dX1_run_77 : decode cX1_run 77 = .ok (.getfield 40, 3) := by decide +kernel
theorem dX1_run_80 : decode cX1_run 80 = .ok (.iconst 1, 1) := by decide +kernel
theorem dX1_run_81 : decode cX1_run 81 = .ok (.isub, 1) := by decide +kernel
theorem dX1_run_82 : decode cX1_run 82 = .ok (.iaload, 1) := by decide +kernel
theorem dX1_run_83 : decode cX1_run 83 = .ok (.ireturn, 1) := by decide +kernel
theorem dX1_run_84 : decode cX1_run 84 = .ok (.iload 6, 2) := by decide +kernel
theorem dX1_run_86 : decode cX1_run 86 = .ok (.bipush 104, 2) := by decide +kernel
theorem dX1_run_88 : decode cX1_run 88 = .ok (.if_icmp .ne 7, 3) := by decide +kernel
theorem dX1_run_91 : decode cX1_run 91 = .ok (.sipush 10000, 3) := by decide +kernel
theorem dX1_run_94 : decode cX1_run 94 = .ok (.ireturn, 1) := by decide +kernel
theorem dX1_run_95 : decode cX1_run 95 = .ok (.iload 6, 2) := by decide +kernel
theorem dX1_run_97 : decode cX1_run 97 = .ok (.bipush 103, 2) := by decide +kernel
theorem dX1_run_99 : decode cX1_run 99 = .ok (.if_icmp .eq 17, 3) := by decide +kernel
theorem dX1_run_102 : decode cX1_run 102 = .ok (.iload 6, 2) := by decide +kernel
theorem dX1_run_104 : decode cX1_run 104 = .ok (.bipush 106, 2) := by decide +kernel
theorem dX1_run_106 : decode cX1_run 106 = .ok (.if_icmp .ne 14, 3) := by decide +kernel
theorem dX1_run_109 : decode cX1_run 109 = .ok (.aload_n 0, 1) := by decide +kernel
theorem dX1_run_110 : decode cX1_run 110 = .ok (.invokevirtual 72, 3) := by decide +kernel
theorem dX1_run_113 : decode cX1_run 113 = .ok (.ifCond .ne 7, 3) := by decide +kernel
theorem dX1_run_116 : decode cX1_run 116 = .ok (.iconst 1, 1) := by decide +kernel
theorem dX1_run_117 : decode cX1_run 117 = .ok (.goto 4, 3) := by decide +kernel
theorem dX1_run_120 : decode cX1_run 120 = .ok (.iconst 0, 1) := by decide +kernel
theorem dX1_run_121 : decode cX1_run 121 = .ok (.istore 8, 2) := by decide +kernel
theorem dX1_run_123 : decode cX1_run 123 = .ok (.iload 8, 2) := by decide +kernel
theorem dX1_run_125 : decode cX1_run 125 = .ok (.ifCond .eq 8, 3) := by decide +kernel
theorem dX1_run_128 : decode cX1_run 128 = .ok (.iload 7, 2) := by decide +kernel
theorem dX1_run_130 : decode cX1_run 130 = .ok (.goto 7, 3) := by decide +kernel
theorem dX1_run_133 : decode cX1_run 133 = .ok (.iload 4, 2) := by decide +kernel
theorem dX1_run_135 : decode cX1_run 135 = .ok (.iconst 1, 1) := by decide +kernel
theorem dX1_run_136 : decode cX1_run 136 = .ok (.iadd, 1) := by decide +kernel
theorem dX1_run_137 : decode cX1_run 137 = .ok (.istore 4, 2) := by decide +kernel
theorem dX1_run_139 : decode cX1_run 139 = .ok (.aload_n 0, 1) := by decide +kernel
theorem dX1_run_140 : decode cX1_run 140 = .ok (.iload 6, 2) := by decide +kernel
theorem dX1_run_142 : decode cX1_run 142 = .ok (.iload 7, 2) := by decide +kernel
theorem dX1_run_144 : decode cX1_run 144 = .ok (.aload_n 2, 1) := by decide +kernel
theorem dX1_run_145 : decode cX1_run 145 = .ok (.invokevirtual 76, 3) := by decide +kernel
theorem dX1_run_148 : decode cX1_run 148 = .ok (.iinc 5 1, 3) := by decide +kernel
theorem dX1_run_151 : decode cX1_run 151 = .ok (.goto (-145), 3) := by decide +kernel
theorem dX1_run_154 : decode cX1_run 154 = .ok (.iload 4, 2) := by decide +kernel
theorem dX1_run_156 : decode cX1_run 156 = .ok (.aload_n 1, 1) := by decide +kernel
theorem dX1_run_157 : decode cX1_run 157 = .ok (.getfield 53, 3) := by decide +kernel
theorem dX1_run_160 : decode cX1_run 160 = .ok (.if_icmp .ge 9, 3) := by decide +kernel
theorem dX1_run_163 : decode cX1_run 163 = .ok (.sipush 10001, 3) := by decide +kernel
theorem dX1_run_166 : decode cX1_run 166 = .ok (.goto 6, 3) := by decide +kernel
theorem dX1_run_169 : decode cX1_run 169 = .ok (.sipush 10000, 3) := by decide +kernel
theorem dX1_run_172 : decode cX1_run 172 = .ok (.ireturn, 1) := by decide +kernel
theorem dX1_pileSuits_0 : decode cX1_pileSuits 0 = .ok (.iload_n 1, 1) := by decide +kernel
theorem dX1_pileSuits_1 : decode cX1_pileSuits 1 = .ok (.lookupswitch 150 #[(42, 136), (43, 136), (45, 136), (60, 136), (61, 136), (97, 107), (98, 107), (106, 122), (108, 107), (111, 122), (112, 107), (115, 122)], 107) := by decide +kernel
theorem dX1_pileSuits_108 : decode cX1_pileSuits 108 = .ok (.aload_n 0, 1) := by decide +kernel
theorem dX1_pileSuits_109 : decode cX1_pileSuits 109 = .ok (.getfield 40, 3) := by decide +kernel
theorem dX1_pileSuits_112 : decode cX1_pileSuits 112 = .ok (.bipush 8, 2) := by decide +kernel
theorem dX1_pileSuits_114 : decode cX1_pileSuits 114 = .ok (.if_icmp .ge 7, 3) := by decide +kernel
theorem dX1_pileSuits_117 : decode cX1_pileSuits 117 = .ok (.iconst 1, 1) := by decide +kernel
theorem dX1_pileSuits_118 : decode cX1_pileSuits 118 = .ok (.goto 4, 3) := by decide +kernel
theorem dX1_pileSuits_121 : decode cX1_pileSuits 121 = .ok (.iconst 0, 1) := by decide +kernel
theorem dX1_pileSuits_122 : decode cX1_pileSuits 122 = .ok (.ireturn, 1) := by decide +kernel
theorem dX1_pileSuits_123 : decode cX1_pileSuits 123 = .ok (.aload_n 0, 1) := by decide +kernel
theorem dX1_pileSuits_124 : decode cX1_pileSuits 124 = .ok (.getfield 40, 3) := by decide +kernel
theorem dX1_pileSuits_127 : decode cX1_pileSuits 127 = .ok (.iconst 1, 1) := by decide +kernel
theorem dX1_pileSuits_128 : decode cX1_pileSuits 128 = .ok (.if_icmp .lt 7, 3) := by decide +kernel
theorem dX1_pileSuits_131 : decode cX1_pileSuits 131 = .ok (.iconst 1, 1) := by decide +kernel
theorem dX1_pileSuits_132 : decode cX1_pileSuits 132 = .ok (.goto 4, 3) := by decide +kernel
theorem dX1_pileSuits_135 : decode cX1_pileSuits 135 = .ok (.iconst 0, 1) := by decide +kernel
theorem dX1_pileSuits_136 : decode cX1_pileSuits 136 = .ok (.ireturn, 1) := by decide +kernel
theorem dX1_pileSuits_137 : decode cX1_pileSuits 137 = .ok (.aload_n 0, 1) := by decide +kernel
theorem dX1_pileSuits_138 : decode cX1_pileSuits 138 = .ok (.getfield 40, 3) := by decide +kernel
theorem dX1_pileSuits_141 : decode cX1_pileSuits 141 = .ok (.iconst 2, 1) := by decide +kernel
theorem dX1_pileSuits_142 : decode cX1_pileSuits 142 = .ok (.if_icmp .lt 7, 3) := by decide +kernel
theorem dX1_pileSuits_145 : decode cX1_pileSuits 145 = .ok (.iconst 1, 1) := by decide +kernel
theorem dX1_pileSuits_146 : decode cX1_pileSuits 146 = .ok (.goto 4, 3) := by decide +kernel
theorem dX1_pileSuits_149 : decode cX1_pileSuits 149 = .ok (.iconst 0, 1) := by decide +kernel
theorem dX1_pileSuits_150 : decode cX1_pileSuits 150 = .ok (.ireturn, 1) := by decide +kernel
theorem dX1_pileSuits_151 : decode cX1_pileSuits 151 = .ok (.iconst 1, 1) := by decide +kernel
theorem dX1_pileSuits_152 : decode cX1_pileSuits 152 = .ok (.ireturn, 1) := by decide +kernel
set_option maxRecDepth 20000 in
theorem ggX1_act_X1_push : GoodIn wsX1_act wsX1_push := goodIn_r _ [7, 8, 9, 21, 22, 23, 24, 25, 26] (by decide +kernel) (by decide +kernel)
set_option maxRecDepth 20000 in
theorem gX1_act_X1_push : GoodIn wsX1_act (wsV RX1 80 RX1 yX1_push wsX1_push) := goodIn_app (goodIn_of _ (by decide +kernel)) ggX1_act_X1_push
set_option maxRecDepth 20000 in
theorem ggX1_act_X1_pull : GoodIn wsX1_act wsX1_pull := goodIn_r _ [13, 8, 9, 21, 22, 23, 24, 25, 26] (by decide +kernel) (by decide +kernel)
set_option maxRecDepth 20000 in
theorem gX1_act_X1_pull : GoodIn wsX1_act (wsV RX1 72 RX1 yX1_pull wsX1_pull) := goodIn_app (goodIn_of _ (by decide +kernel)) ggX1_act_X1_pull
set_option maxRecDepth 20000 in
theorem ggX1_act_X1_joinTwo : GoodIn wsX1_act wsX1_joinTwo := goodIn_r _ [17, 10, 11, 12, 6, 13, 8, 9, 18, 19, 20, 3, 4, 5, 7, 21, 22, 23, 24, 25, 26] (by decide +kernel) (by decide +kernel)
set_option maxRecDepth 20000 in
theorem gX1_act_X1_joinTwo : GoodIn wsX1_act (wsV RX1 84 RX1 yX1_joinTwo wsX1_joinTwo) := goodIn_app (goodIn_of _ (by decide +kernel)) ggX1_act_X1_joinTwo
theorem dX1_act_0 : decode cX1_act 0 = .ok (.iload_n 1, 1) := by decide +kernel
theorem dX1_act_1 : decode cX1_act 1 = .ok (.lookupswitch 149 #[(42, 141), (43, 141), (45, 141), (60, 141), (61, 141), (97, 99), (98, 110), (108, 121), (112, 91), (115, 131)], 91) := by decide +kernel
theorem dX1_act_92 : decode cX1_act 92 = .ok (.aload_n 0, 1) := by decide +kernel
theorem dX1_act_93 : decode cX1_act 93 = .ok (.iload_n 2, 1) := by decide +kernel
theorem dX1_act_94 : decode cX1_act 94 = .ok (.invokevirtual 80, 3) := by decide +kernel
theorem dX1_act_97 : decode cX1_act 97 = .ok (.goto 53, 3) := by decide +kernel
theorem dX1_act_100 : decode cX1_act 100 = .ok (.aload_n 0, 1) := by decide +kernel
theorem dX1_act_101 : decode cX1_act 101 = .ok (.aload_n 0, 1) := by decide +kernel
theorem dX1_act_102 : decode cX1_act 102 = .ok (.getfield 33, 3) := by decide +kernel
theorem dX1_act_105 : decode cX1_act 105 = .ok (.invokevirtual 80, 3) := by decide +kernel
theorem dX1_act_108 : decode cX1_act 108 = .ok (.goto 42, 3) := by decide +kernel
theorem dX1_act_111 : decode cX1_act 111 = .ok (.aload_n 0, 1) := by decide +kernel
theorem dX1_act_112 : decode cX1_act 112 = .ok (.aload_n 0, 1) := by decide +kernel
theorem dX1_act_113 : decode cX1_act 113 = .ok (.getfield 37, 3) := by decide +kernel
theorem dX1_act_116 : decode cX1_act 116 = .ok (.invokevirtual 80, 3) := by decide +kernel
theorem dX1_act_119 : decode cX1_act 119 = .ok (.goto 31, 3) := by decide +kernel
theorem dX1_act_122 : decode cX1_act 122 = .ok (.aload_n 0, 1) := by decide +kernel
theorem dX1_act_123 : decode cX1_act 123 = .ok (.aload_n 3, 1) := by decide +kernel
theorem dX1_act_124 : decode cX1_act 124 = .ok (.iload_n 2, 1) := by decide +kernel
theorem dX1_act_125 : decode cX1_act 125 = .ok (.iaload, 1) := by decide +kernel
theorem dX1_act_126 : decode cX1_act 126 = .ok (.invokevirtual 80, 3) := by decide +kernel
theorem dX1_act_129 : decode cX1_act 129 = .ok (.goto 21, 3) := by decide +kernel
theorem dX1_act_132 : decode cX1_act 132 = .ok (.aload_n 3, 1) := by decide +kernel
theorem dX1_act_133 : decode cX1_act 133 = .ok (.iload_n 2, 1) := by decide +kernel
theorem dX1_act_134 : decode cX1_act 134 = .ok (.aload_n 0, 1) := by decide +kernel
theorem dX1_act_135 : decode cX1_act 135 = .ok (.invokevirtual 72, 3) := by decide +kernel
theorem dX1_act_138 : decode cX1_act 138 = .ok (.iastore, 1) := by decide +kernel
theorem dX1_act_139 : decode cX1_act 139 = .ok (.goto 11, 3) := by decide +kernel
theorem dX1_act_142 : decode cX1_act 142 = .ok (.aload_n 0, 1) := by decide +kernel
theorem dX1_act_143 : decode cX1_act 143 = .ok (.iload_n 1, 1) := by decide +kernel
theorem dX1_act_144 : decode cX1_act 144 = .ok (.invokevirtual 84, 3) := by decide +kernel
theorem dX1_act_147 : decode cX1_act 147 = .ok (.goto 3, 3) := by decide +kernel
theorem dX1_act_150 : decode cX1_act 150 = .ok (.return_, 1) := by decide +kernel
set_option maxRecDepth 20000 in
theorem ggX1_joinTwo_X1_pull : GoodIn wsX1_joinTwo wsX1_pull := goodIn_r _ [5, 6, 7, 15, 16, 17, 18, 19, 20] (by decide +kernel) (by decide +kernel)
set_option maxRecDepth 20000 in
theorem gX1_joinTwo_X1_pull : GoodIn wsX1_joinTwo (wsV RX1 72 RX1 yX1_pull wsX1_pull) := goodIn_app (goodIn_of _ (by decide +kernel)) ggX1_joinTwo_X1_pull
set_option maxRecDepth 20000 in
theorem ggX1_joinTwo_X1_joined : GoodIn wsX1_joinTwo wsX1_joined := goodIn_r _ [10] (by decide +kernel) (by decide +kernel)
set_option maxRecDepth 20000 in
theorem gX1_joinTwo_X1_joined : GoodIn wsX1_joinTwo (va_wsS RX1 87 yX1_joined wsX1_joined) := goodIn_app (goodIn_of _ (by decide +kernel)) ggX1_joinTwo_X1_joined
set_option maxRecDepth 20000 in
theorem ggX1_joinTwo_X1_push : GoodIn wsX1_joinTwo wsX1_push := goodIn_r _ [14, 6, 7, 15, 16, 17, 18, 19, 20] (by decide +kernel) (by decide +kernel)
set_option maxRecDepth 20000 in
theorem gX1_joinTwo_X1_push : GoodIn wsX1_joinTwo (wsV RX1 80 RX1 yX1_push wsX1_push) := goodIn_app (goodIn_of _ (by decide +kernel)) ggX1_joinTwo_X1_push
theorem dX1_joinTwo_0 : decode cX1_joinTwo 0 = .ok (.aload_n 0, 1) := by decide +kernel
theorem dX1_joinTwo_1 : decode cX1_joinTwo 1 = .ok (.invokevirtual 72, 3) := by decide +kernel
theorem dX1_joinTwo_4 : decode cX1_joinTwo 4 = .ok (.istore_n 2, 1) := by decide +kernel
theorem dX1_joinTwo_5 : decode cX1_joinTwo 5 = .ok (.aload_n 0, 1) := by decide +kernel
theorem dX1_joinTwo_6 : decode cX1_joinTwo 6 = .ok (.invokevirtual 72, 3) := by decide +kernel
theorem dX1_joinTwo_9 : decode cX1_joinTwo 9 = .ok (.istore_n 3, 1) := by decide +kernel
theorem dX1_joinTwo_10 : decode cX1_joinTwo 10 = .ok (.aload_n 0, 1) := by decide +kernel
theorem dX1_joinTwo_11 : decode cX1_joinTwo 11 = .ok (.iload_n 1, 1) := by decide +kernel
theorem dX1_joinTwo_12 : decode cX1_joinTwo 12 = .ok (.iload_n 3, 1) := by decide +kernel
theorem dX1_joinTwo_13 : decode cX1_joinTwo 13 = .ok (.iload_n 2, 1) := by decide +kernel
theorem dX1_joinTwo_14 : decode cX1_joinTwo 14 = .ok (.invokestatic 87, 3) := by decide +kernel
theorem dX1_joinTwo_17 : decode cX1_joinTwo 17 = .ok (.invokevirtual 80, 3) := by decide +kernel
theorem dX1_joinTwo_20 : decode cX1_joinTwo 20 = .ok (.return_, 1) := by decide +kernel
theorem dX1_joined_0 : decode cX1_joined 0 = .ok (.iload_n 0, 1) := by decide +kernel
theorem dX1_joined_1 : decode cX1_joined 1 = .ok (.lookupswitch 82 #[(42, 63), (43, 43), (45, 51), (61, 71)], 43) := by decide +kernel
theorem dX1_joined_44 : decode cX1_joined 44 = .ok (.iload_n 1, 1) := by decide +kernel
theorem dX1_joined_45 : decode cX1_joined 45 = .ok (.iload_n 2, 1) := by decide +kernel
theorem dX1_joined_46 : decode cX1_joined 46 = .ok (.iadd, 1) := by decide +kernel
theorem dX1_joined_47 : decode cX1_joined 47 = .ok (.sipush 10000, 3) := by decide +kernel
theorem dX1_joined_50 : decode cX1_joined 50 = .ok (.irem, 1) := by decide +kernel
theorem dX1_joined_51 : decode cX1_joined 51 = .ok (.ireturn, 1) := by decide +kernel
theorem dX1_joined_52 : decode cX1_joined 52 = .ok (.iload_n 1, 1) := by decide +kernel
theorem dX1_joined_53 : decode cX1_joined 53 = .ok (.iload_n 2, 1) := by decide +kernel
theorem dX1_joined_54 : decode cX1_joined 54 = .ok (.isub, 1) := by decide +kernel
theorem dX1_joined_55 : decode cX1_joined 55 = .ok (.sipush 10000, 3) := by decide +kernel
theorem dX1_joined_58 : decode cX1_joined 58 = .ok (.iadd, 1) := by decide +kernel
theorem dX1_joined_59 : decode cX1_joined 59 = .ok (.sipush 10000, 3) := by decide +kernel
theorem dX1_joined_62 : decode cX1_joined 62 = .ok (.irem, 1) := by decide +kernel
theorem dX1_joined_63 : decode cX1_joined 63 = .ok (.ireturn, 1) := by decide +kernel
theorem dX1_joined_64 : decode cX1_joined 64 = .ok (.iload_n 1, 1) := by decide +kernel
theorem dX1_joined_65 : decode cX1_joined 65 = .ok (.iload_n 2, 1) := by decide +kernel
theorem dX1_joined_66 : decode cX1_joined 66 = .ok (.imul, 1) := by decide +kernel
theorem dX1_joined_67 : decode cX1_joined 67 = .ok (.sipush 10000, 3) := by decide +kernel
theorem dX1_joined_70 : decode cX1_joined 70 = .ok (.irem, 1) := by decide +kernel
theorem dX1_joined_71 : decode cX1_joined 71 = .ok (.ireturn, 1) := by decide +kernel
theorem dX1_joined_72 : decode cX1_joined 72 = .ok (.iload_n 1, 1) := by decide +kernel
theorem dX1_joined_73 : decode cX1_joined 73 = .ok (.iload_n 2, 1) := by decide +kernel
theorem dX1_joined_74 : decode cX1_joined 74 = .ok (.if_icmp .ne 7, 3) := by decide +kernel
theorem dX1_joined_77 : decode cX1_joined 77 = .ok (.iconst 1, 1) := by decide +kernel
theorem dX1_joined_78 : decode cX1_joined 78 = .ok (.goto 4, 3) := by decide +kernel
theorem dX1_joined_81 : decode cX1_joined 81 = .ok (.iconst 0, 1) := by decide +kernel
theorem dX1_joined_82 : decode cX1_joined 82 = .ok (.ireturn, 1) := by decide +kernel
theorem dX1_joined_83 : decode cX1_joined 83 = .ok (.iload_n 1, 1) := by decide +kernel
theorem dX1_joined_84 : decode cX1_joined 84 = .ok (.iload_n 2, 1) := by decide +kernel
theorem dX1_joined_85 : decode cX1_joined 85 = .ok (.if_icmp .ge 7, 3) := by decide +kernel
theorem dX1_joined_88 : decode cX1_joined 88 = .ok (.iconst 1, 1) := by decide +kernel
theorem dX1_joined_89 : decode cX1_joined 89 = .ok (.goto 4, 3) := by decide +kernel
theorem dX1_joined_92 : decode cX1_joined 92 = .ok (.iconst 0, 1) := by decide +kernel
theorem dX1_joined_93 : decode cX1_joined 93 = .ok (.ireturn, 1) := by decide +kernel
theorem dX1_push_0 : decode cX1_push 0 = .ok (.aload_n 0, 1) := by decide +kernel
theorem dX1_push_1 : decode cX1_push 1 = .ok (.getfield 40, 3) := by decide +kernel
theorem dX1_push_4 : decode cX1_push 4 = .ok (.bipush 8, 2) := by decide +kernel
theorem dX1_push_6 : decode cX1_push 6 = .ok (.if_icmp .ge 23, 3) := by decide +kernel
theorem dX1_push_9 : decode cX1_push 9 = .ok (.aload_n 0, 1) := by decide +kernel
theorem dX1_push_10 : decode cX1_push 10 = .ok (.getfield 9, 3) := by decide +kernel
theorem dX1_push_13 : decode cX1_push 13 = .ok (.aload_n 0, 1) := by decide +kernel
theorem dX1_push_14 : decode cX1_push 14 = .ok (.getfield 40, 3) := by decide +kernel
theorem dX1_push_17 : decode cX1_push 17 = .ok (.iload_n 1, 1) := by decide +kernel
theorem dX1_push_18 : decode cX1_push 18 = .ok (.iastore, 1) := by decide +kernel
theorem dX1_push_19 : decode cX1_push 19 = .ok (.aload_n 0, 1) := by decide +kernel
theorem dX1_push_20 : decode cX1_push 20 = .ok (.dup, 1) := by decide +kernel
theorem dX1_push_21 : decode cX1_push 21 = .ok (.getfield 40, 3) := by decide +kernel
theorem dX1_push_24 : decode cX1_push 24 = .ok (.iconst 1, 1) := by decide +kernel
theorem dX1_push_25 : decode cX1_push 25 = .ok (.iadd, 1) := by decide +kernel
theorem dX1_push_26 : decode cX1_push 26 = .ok (.putfield 40, 3) := by decide +kernel
theorem dX1_push_29 : decode cX1_push 29 = .ok (.return_, 1) := by decide +kernel
theorem dX1_pull_0 : decode cX1_pull 0 = .ok (.aload_n 0, 1) := by decide +kernel
theorem dX1_pull_1 : decode cX1_pull 1 = .ok (.getfield 40, 3) := by decide +kernel
theorem dX1_pull_4 : decode cX1_pull 4 = .ok (.iconst 1, 1) := by decide +kernel
theorem dX1_pull_5 : decode cX1_pull 5 = .ok (.if_icmp .ge 5, 3) := by decide +kernel
theorem dX1_pull_8 : decode cX1_pull 8 = .ok (.iconst 0, 1) := by decide +kernel
theorem dX1_pull_9 : decode cX1_pull 9 = .ok (.ireturn, 1) := by decide +kernel
theorem dX1_pull_10 : decode cX1_pull 10 = .ok (.aload_n 0, 1) := by decide +kernel
theorem dX1_pull_11 : decode cX1_pull 11 = .ok (.dup, 1) := by decide +kernel
theorem dX1_pull_12 : decode cX1_pull 12 = .ok (.getfield 40, 3) := by decide +kernel
theorem dX1_pull_15 : decode cX1_pull 15 = .ok (.iconst 1, 1) := by decide +kernel
theorem dX1_pull_16 : decode cX1_pull 16 = .ok (.isub, 1) := by decide +kernel
theorem dX1_pull_17 : decode cX1_pull 17 = .ok (.putfield 40, 3) := by decide +kernel
theorem dX1_pull_20 : decode cX1_pull 20 = .ok (.aload_n 0, 1) := by decide +kernel
theorem dX1_pull_21 : decode cX1_pull 21 = .ok (.getfield 9, 3) := by decide +kernel
theorem dX1_pull_24 : decode cX1_pull 24 = .ok (.aload_n 0, 1) := by decide +kernel
theorem dX1_pull_25 : decode cX1_pull 25 = .ok (.getfield 40, 3) := by decide +kernel
theorem dX1_pull_28 : decode cX1_pull 28 = .ok (.iaload, 1) := by decide +kernel
theorem dX1_pull_29 : decode cX1_pull 29 = .ok (.ireturn, 1) := by decide +kernel
theorem dX2_init_0 : decode cX2_init 0 = .ok (.aload_n 0, 1) := by decide +kernel
theorem dX2_init_1 : decode cX2_init 1 = .ok (.invokespecial 3, 3) := by decide +kernel
theorem dX2_init_4 : decode cX2_init 4 = .ok (.aload_n 0, 1) := by decide +kernel
theorem dX2_init_5 : decode cX2_init 5 = .ok (.sipush 400, 3) := by decide +kernel
theorem dX2_init_8 : decode cX2_init 8 = .ok (.newarray .int, 2) := by decide +kernel
theorem dX2_init_10 : decode cX2_init 10 = .ok (.putfield 9, 3) := by decide +kernel
theorem dX2_init_13 : decode cX2_init 13 = .ok (.aload_n 0, 1) := by decide +kernel
theorem dX2_init_14 : decode cX2_init 14 = .ok (.sipush 400, 3) := by decide +kernel
theorem dX2_init_17 : decode cX2_init 17 = .ok (.newarray .int, 2) := by decide +kernel
theorem dX2_init_19 : decode cX2_init 19 = .ok (.putfield 15, 3) := by decide +kernel
theorem dX2_init_22 : decode cX2_init 22 = .ok (.aload_n 0, 1) := by decide +kernel
theorem dX2_init_23 : decode cX2_init 23 = .ok (.sipush 400, 3) := by decide +kernel
theorem dX2_init_26 : decode cX2_init 26 = .ok (.newarray .int, 2) := by decide +kernel
theorem dX2_init_28 : decode cX2_init 28 = .ok (.putfield 18, 3) := by decide +kernel
theorem dX2_init_31 : decode cX2_init 31 = .ok (.return_, 1) := by decide +kernel
theorem dX2_keep_0 : decode cX2_keep 0 = .ok (.aload_n 0, 1) := by decide +kernel
theorem dX2_keep_1 : decode cX2_keep 1 = .ok (.getfield 9, 3) := by decide +kernel
theorem dX2_keep_4 : decode cX2_keep 4 = .ok (.aload_n 0, 1) := by decide +kernel
theorem dX2_keep_5 : decode cX2_keep 5 = .ok (.getfield 21, 3) := by decide +kernel
theorem dX2_keep_8 : decode cX2_keep 8 = .ok (.aload_n 1, 1) := by decide +kernel
theorem dX2_keep_9 : decode cX2_keep 9 = .ok (.getfield 25, 3) := by decide +kernel
theorem dX2_keep_12 : decode cX2_keep 12 = .ok (.iconst 3, 1) := by decide +kernel
theorem dX2_keep_13 : decode cX2_keep 13 = .ok (.imul, 1) := by decide +kernel
theorem dX2_keep_14 : decode cX2_keep 14 = .ok (.aload_n 1, 1) := by decide +kernel
theorem dX2_keep_15 : decode cX2_keep 15 = .ok (.getfield 30, 3) := by decide +kernel
theorem dX2_keep_18 : decode cX2_keep 18 = .ok (.iadd, 1) := by decide +kernel
theorem dX2_keep_19 : decode cX2_keep 19 = .ok (.iastore, 1) := by decide +kernel
theorem dX2_keep_20 : decode cX2_keep 20 = .ok (.aload_n 0, 1) := by decide +kernel
theorem dX2_keep_21 : decode cX2_keep 21 = .ok (.getfield 15, 3) := by decide +kernel
theorem dX2_keep_24 : decode cX2_keep 24 = .ok (.aload_n 0, 1) := by decide +kernel
theorem dX2_keep_25 : decode cX2_keep 25 = .ok (.getfield 21, 3) := by decide +kernel
theorem dX2_keep_28 : decode cX2_keep 28 = .ok (.iload_n 2, 1) := by decide +kernel
theorem dX2_keep_29 : decode cX2_keep 29 = .ok (.iastore, 1) := by decide +kernel
theorem dX2_keep_30 : decode cX2_keep 30 = .ok (.aload_n 0, 1) := by decide +kernel
theorem dX2_keep_31 : decode cX2_keep 31 = .ok (.getfield 18, 3) := by decide +kernel
theorem dX2_keep_34 : decode cX2_keep 34 = .ok (.aload_n 0, 1) := by decide +kernel
theorem dX2_keep_35 : decode cX2_keep 35 = .ok (.getfield 21, 3) := by decide +kernel
theorem dX2_keep_38 : decode cX2_keep 38 = .ok (.iload_n 3, 1) := by decide +kernel
theorem dX2_keep_39 : decode cX2_keep 39 = .ok (.iastore, 1) := by decide +kernel
theorem dX2_keep_40 : decode cX2_keep 40 = .ok (.aload_n 0, 1) := by decide +kernel
theorem dX2_keep_41 : decode cX2_keep 41 = .ok (.dup, 1) := by decide +kernel
theorem dX2_keep_42 : decode cX2_keep 42 = .ok (.getfield 21, 3) := by decide +kernel
theorem dX2_keep_45 : decode cX2_keep 45 = .ok (.iconst 1, 1) := by decide +kernel
theorem dX2_keep_46 : decode cX2_keep 46 = .ok (.iadd, 1) := by decide +kernel
theorem dX2_keep_47 : decode cX2_keep 47 = .ok (.putfield 21, 3) := by decide +kernel
theorem dX2_keep_50 : decode cX2_keep 50 = .ok (.return_, 1) := by decide +kernel
set_option maxRecDepth 20000 in
theorem ggX2_countLikeChecks_Jx4a65c_size_8abf5 : GoodIn wsX2_countLikeChecks wsJx4a65c_size_8abf5 := goodIn_r _ [10, 11, 53, 54, 55] (by decide +kernel) (by decide +kernel)
set_option maxRecDepth 20000 in
theorem gX2_countLikeChecks_Jx4a65c_size_8abf5 : GoodIn wsX2_countLikeChecks (wsV RX2 33 RJx4a65c yJx4a65c_size_8abf5 wsJx4a65c_size_8abf5) := goodIn_app (goodIn_of _ (by decide +kernel)) ggX2_countLikeChecks_Jx4a65c_size_8abf5
set_option maxRecDepth 20000 in
theorem ggX2_countLikeChecks_Jx4a65c_get_915e3 : GoodIn wsX2_countLikeChecks wsJx4a65c_get_915e3 := goodIn_r _ [15, 11, 16, 17, 18, 19, 20, 21, 22, 23, 24, 25, 26, 9, 27, 28, 53, 54, 55] (by decide +kernel) (by decide +kernel)
set_option maxRecDepth 20000 in
theorem gX2_countLikeChecks_Jx4a65c_get_915e3 : GoodIn wsX2_countLikeChecks (wsV RX2 38 RJx4a65c yJx4a65c_get_915e3 wsJx4a65c_get_915e3) := goodIn_app (goodIn_of _ (by decide +kernel)) ggX2_countLikeChecks_Jx4a65c_get_915e3
set_option maxRecDepth 20000 in
theorem ggX2_countLikeChecks_X5_isLikeCheck : GoodIn wsX2_countLikeChecks wsX5_isLikeCheck := goodIn_r _ [32, 33, 34, 39, 40, 41, 42, 43, 44, 45, 46, 47, 48, 49, 50, 51, 52] (by decide +kernel) (by decide +kernel)
set_option maxRecDepth 20000 in
theorem gX2_countLikeChecks_X5_isLikeCheck_n45 : GoodIn wsX2_countLikeChecks (wsX5_isLikeCheck) := ggX2_countLikeChecks_X5_isLikeCheck
theorem dX2_countLikeChecks_0 : decode cX2_countLikeChecks 0 = .ok (.iconst 0, 1) := by decide +kernel
theorem dX2_countLikeChecks_1 : decode cX2_countLikeChecks 1 = .ok (.istore_n 2, 1) := by decide +kernel
theorem dX2_countLikeChecks_2 : decode cX2_countLikeChecks 2 = .ok (.iload_n 2, 1) := by decide +kernel
theorem dX2_countLikeChecks_3 : decode cX2_countLikeChecks 3 = .ok (.aload_n 0, 1) := by decide +kernel
theorem dX2_countLikeChecks_4 : decode cX2_countLikeChecks 4 = .ok (.getfield 21, 3) := by decide +kernel
theorem dX2_countLikeChecks_7 : decode cX2_countLikeChecks 7 = .ok (.if_icmp .ge 69, 3) := by decide +kernel
theorem dX2_countLikeChecks_10 : decode cX2_countLikeChecks 10 = .ok (.aload_n 0, 1) := by decide +kernel
theorem dX2_countLikeChecks_11 : decode cX2_countLikeChecks 11 = .ok (.getfield 9, 3) := by decide +kernel
theorem dX2_countLikeChecks_14 : decode cX2_countLikeChecks 14 = .ok (.iload_n 2, 1) := by decide +kernel
theorem dX2_countLikeChecks_15 : decode cX2_countLikeChecks 15 = .ok (.iaload, 1) := by decide +kernel
theorem dX2_countLikeChecks_16 : decode cX2_countLikeChecks 16 = .ok (.aload_n 1, 1) := by decide +kernel
theorem dX2_countLikeChecks_17 : decode cX2_countLikeChecks 17 = .ok (.invokevirtual 33, 3) := by decide +kernel
theorem dX2_countLikeChecks_20 : decode cX2_countLikeChecks 20 = .ok (.if_icmp .ge 50, 3) := by decide +kernel
theorem dX2_countLikeChecks_23 : decode cX2_countLikeChecks 23 = .ok (.aload_n 1, 1) := by decide +kernel
theorem dX2_countLikeChecks_24 : decode cX2_countLikeChecks 24 = .ok (.aload_n 0, 1) := by decide +kernel
theorem dX2_countLikeChecks_25 : decode cX2_countLikeChecks 25 = .ok (.getfield 9, 3) := by decide +kernel
theorem dX2_countLikeChecks_28 : decode cX2_countLikeChecks 28 = .ok (.iload_n 2, 1) := by decide +kernel
theorem dX2_countLikeChecks_29 : decode cX2_countLikeChecks 29 = .ok (.iaload, 1) := by decide +kernel
theorem dX2_countLikeChecks_30 : decode cX2_countLikeChecks 30 = .ok (.invokevirtual 38, 3) := by decide +kernel
theorem dX2_countLikeChecks_33 : decode cX2_countLikeChecks 33 = .ok (.checkcast 26, 3) := by decide +kernel
theorem dX2_countLikeChecks_36 : decode cX2_countLikeChecks 36 = .ok (.astore_n 3, 1) := by decide +kernel
theorem dX2_countLikeChecks_37 : decode cX2_countLikeChecks 37 = .ok (.aload_n 3, 1) := by decide +kernel
theorem dX2_countLikeChecks_38 : decode cX2_countLikeChecks 38 = .ok (.dup, 1) := by decide +kernel
theorem dX2_countLikeChecks_39 : decode cX2_countLikeChecks 39 = .ok (.getfield 42, 3) := by decide +kernel
theorem dX2_countLikeChecks_42 : decode cX2_countLikeChecks 42 = .ok (.aload_n 3, 1) := by decide +kernel
theorem dX2_countLikeChecks_43 : decode cX2_countLikeChecks 43 = .ok (.aload_n 0, 1) := by decide +kernel
theorem dX2_countLikeChecks_44 : decode cX2_countLikeChecks 44 = .ok (.getfield 15, 3) := by decide +kernel
theorem dX2_countLikeChecks_47 : decode cX2_countLikeChecks 47 = .ok (.iload_n 2, 1) := by decide +kernel
theorem dX2_countLikeChecks_48 : decode cX2_countLikeChecks 48 = .ok (.iaload, 1) := by decide +kernel
theorem dX2_countLikeChecks_49 : decode cX2_countLikeChecks 49 = .ok (.aload_n 0, 1) := by decide +kernel
theorem dX2_countLikeChecks_50 : decode cX2_countLikeChecks 50 = .ok (.getfield 18, 3) := by decide +kernel
theorem dX2_countLikeChecks_53 : decode cX2_countLikeChecks 53 = .ok (.iload_n 2, 1) := by decide +kernel
theorem dX2_countLikeChecks_54 : decode cX2_countLikeChecks 54 = .ok (.iaload, 1) := by decide +kernel
theorem dX2_countLikeChecks_55 : decode cX2_countLikeChecks 55 = .ok (.invokevirtual 45, 3) := by decide +kernel
theorem dX2_countLikeChecks_58 : decode cX2_countLikeChecks 58 = .ok (.ifCond .eq 7, 3) := by decide +kernel
theorem dX2_countLikeChecks_61 : decode cX2_countLikeChecks 61 = .ok (.iconst 1, 1) := by decide +kernel
theorem dX2_countLikeChecks_62 : decode cX2_countLikeChecks 62 = .ok (.goto 4, 3) := by decide +kernel
theorem dX2_countLikeChecks_65 : decode cX2_countLikeChecks 65 = .ok (.iconst 0, 1) := by decide +kernel
theorem dX2_countLikeChecks_66 : decode cX2_countLikeChecks 66 = .ok (.iadd, 1) := by decide +kernel
theorem dX2_countLikeChecks_67 : decode cX2_countLikeChecks 67 = .ok (.putfield 42, 3) := by decide +kernel
theorem dX2_countLikeChecks_70 : decode cX2_countLikeChecks 70 = .ok (.iinc 2 1, 3) := by decide +kernel
theorem dX2_countLikeChecks_73 : decode cX2_countLikeChecks 73 = .ok (.goto (-71), 3) := by decide +kernel
theorem dX2_countLikeChecks_76 : decode cX2_countLikeChecks 76 = .ok (.return_, 1) := by decide +kernel
theorem dX3_init_0 : decode cX3_init 0 = .ok (.aload_n 0, 1) := by decide +kernel
theorem dX3_init_1 : decode cX3_init 1 = .ok (.invokespecial 1, 3) := by decide +kernel
theorem dX3_init_4 : decode cX3_init 4 = .ok (.aload_n 0, 1) := by decide +kernel
theorem dX3_init_5 : decode cX3_init 5 = .ok (.iload_n 3, 1) := by decide +kernel
theorem dX3_init_6 : decode cX3_init 6 = .ok (.putfield 7, 3) := by decide +kernel
theorem dX3_init_9 : decode cX3_init 9 = .ok (.aload_n 0, 1) := by decide +kernel
theorem dX3_init_10 : decode cX3_init 10 = .ok (.iload_n 3, 1) := by decide +kernel
theorem dX3_init_11 : decode cX3_init 11 = .ok (.newarray .int, 2) := by decide +kernel
theorem dX3_init_13 : decode cX3_init 13 = .ok (.putfield 13, 3) := by decide +kernel
theorem dX3_init_16 : decode cX3_init 16 = .ok (.aload_n 0, 1) := by decide +kernel
theorem dX3_init_17 : decode cX3_init 17 = .ok (.iload_n 3, 1) := by decide +kernel
theorem dX3_init_18 : decode cX3_init 18 = .ok (.newarray .int, 2) := by decide +kernel
theorem dX3_init_20 : decode cX3_init 20 = .ok (.putfield 17, 3) := by decide +kernel
theorem dX3_init_23 : decode cX3_init 23 = .ok (.aload_n 1, 1) := by decide +kernel
theorem dX3_init_24 : decode cX3_init 24 = .ok (.iconst 0, 1) := by decide +kernel
theorem dX3_init_25 : decode cX3_init 25 = .ok (.aload_n 0, 1) := by decide +kernel
theorem dX3_init_26 : decode cX3_init 26 = .ok (.getfield 13, 3) := by decide +kernel
theorem dX3_init_29 : decode cX3_init 29 = .ok (.iconst 0, 1) := by decide +kernel
theorem dX3_init_30 : decode cX3_init 30 = .ok (.iload_n 3, 1) := by decide +kernel
theorem dX3_init_31 : decode cX3_init 31 = .ok (.invokestatic 20, 3) := by decide +kernel
theorem dX3_init_34 : decode cX3_init 34 = .ok (.aload_n 2, 1) := by decide +kernel
theorem dX3_init_35 : decode cX3_init 35 = .ok (.iconst 0, 1) := by decide +kernel
theorem dX3_init_36 : decode cX3_init 36 = .ok (.aload_n 0, 1) := by decide +kernel
theorem dX3_init_37 : decode cX3_init 37 = .ok (.getfield 17, 3) := by decide +kernel
theorem dX3_init_40 : decode cX3_init 40 = .ok (.iconst 0, 1) := by decide +kernel
theorem dX3_init_41 : decode cX3_init 41 = .ok (.iload_n 3, 1) := by decide +kernel
theorem dX3_init_42 : decode cX3_init 42 = .ok (.invokestatic 20, 3) := by decide +kernel
theorem dX3_init_45 : decode cX3_init 45 = .ok (.return_, 1) := by decide +kernel
theorem dX4_init_0 : decode cX4_init 0 = .ok (.aload_n 0, 1) := by decide +kernel
theorem dX4_init_1 : decode cX4_init 1 = .ok (.invokespecial 3, 3) := by decide +kernel
theorem dX4_init_4 : decode cX4_init 4 = .ok (.aload_n 0, 1) := by decide +kernel
theorem dX4_init_5 : decode cX4_init 5 = .ok (.bipush 24, 2) := by decide +kernel
theorem dX4_init_7 : decode cX4_init 7 = .ok (.newarray .int, 2) := by decide +kernel
theorem dX4_init_9 : decode cX4_init 9 = .ok (.putfield 9, 3) := by decide +kernel
theorem dX4_init_12 : decode cX4_init 12 = .ok (.aload_n 0, 1) := by decide +kernel
theorem dX4_init_13 : decode cX4_init 13 = .ok (.bipush 24, 2) := by decide +kernel
theorem dX4_init_15 : decode cX4_init 15 = .ok (.newarray .int, 2) := by decide +kernel
theorem dX4_init_17 : decode cX4_init 17 = .ok (.putfield 15, 3) := by decide +kernel
theorem dX4_init_20 : decode cX4_init 20 = .ok (.return_, 1) := by decide +kernel
set_option maxRecDepth 20000 in
theorem ggX4_read_X4_readStep : GoodIn wsX4_read wsX4_readStep := goodIn_r _ [7, 1, 8, 2, 9, 10, 11, 12, 13, 14, 15, 16, 17, 18, 6, 19, 20, 21, 22, 23, 24, 25, 26, 31, 32, 33, 34, 35, 36] (by decide +kernel) (by decide +kernel)
set_option maxRecDepth 20000 in
theorem gX4_read_X4_readStep : GoodIn wsX4_read (wsV RX4 25 RX4 yX4_readStep wsX4_readStep) := goodIn_app (goodIn_of _ (by decide +kernel)) ggX4_read_X4_readStep
set_option maxRecDepth 20000 in
theorem ggX4_read_X6_at : GoodIn wsX4_read wsX6_at := goodIn_r _ [13, 14, 15, 35, 36] (by decide +kernel) (by decide +kernel)
set_option maxRecDepth 20000 in
theorem gX4_read_X6_at_n29 : GoodIn wsX4_read (wsX6_at) := ggX4_read_X6_at
set_option maxRecDepth 20000 in
theorem ggX4_read_X4_lostStep : GoodIn wsX4_read wsX4_lostStep := goodIn_r _ [30, 2, 8, 9, 31, 32, 33, 34] (by decide +kernel) (by decide +kernel)
set_option maxRecDepth 20000 in
theorem gX4_read_X4_lostStep : GoodIn wsX4_read (wsV RX4 36 RX4 yX4_lostStep wsX4_lostStep) := goodIn_app (goodIn_of _ (by decide +kernel)) ggX4_read_X4_lostStep
theorem dX4_read_0 : decode cX4_read 0 = .ok (.aload_n 0, 1) := by decide +kernel
theorem dX4_read_1 : decode cX4_read 1 = .ok (.iconst 0, 1) := by decide +kernel
theorem dX4_read_2 : decode cX4_read 2 = .ok (.putfield 18, 3) := by decide +kernel
theorem dX4_read_5 : decode cX4_read 5 = .ok (.aload_n 0, 1) := by decide +kernel
theorem dX4_read_6 : decode cX4_read 6 = .ok (.iconst 0, 1) := by decide +kernel
theorem dX4_read_7 : decode cX4_read 7 = .ok (.putfield 22, 3) := by decide +kernel
theorem dX4_read_10 : decode cX4_read 10 = .ok (.iconst 1, 1) := by decide +kernel
theorem dX4_read_11 : decode cX4_read 11 = .ok (.istore_n 2, 1) := by decide +kernel
theorem dX4_read_12 : decode cX4_read 12 = .ok (.iload_n 2, 1) := by decide +kernel
theorem dX4_read_13 : decode cX4_read 13 = .ok (.ifCond .eq 80, 3) := by decide +kernel
theorem dX4_read_16 : decode cX4_read 16 = .ok (.aload_n 0, 1) := by decide +kernel
theorem dX4_read_17 : decode cX4_read 17 = .ok (.getfield 22, 3) := by decide +kernel
theorem dX4_read_20 : decode cX4_read 20 = .ok (.bipush 24, 2) := by decide +kernel
theorem dX4_read_22 : decode cX4_read 22 = .ok (.if_icmp .ge 71, 3) := by decide +kernel
theorem dX4_read_25 : decode cX4_read 25 = .ok (.aload_n 0, 1) := by decide +kernel
theorem dX4_read_26 : decode cX4_read 26 = .ok (.aload_n 1, 1) := by decide +kernel
theorem dX4_read_27 : decode cX4_read 27 = .ok (.invokevirtual 25, 3) := by decide +kernel
theorem dX4_read_30 : decode cX4_read 30 = .ok (.ifCond .ne 8, 3) := by decide +kernel
theorem dX4_read_33 : decode cX4_read 33 = .ok (.aload_n 0, 1) := by decide +kernel
theorem dX4_read_34 : decode cX4_read 34 = .ok (.getfield 18, 3) := by decide +kernel
theorem dX4_read_37 : decode cX4_read 37 = .ok (.ireturn, 1) := by decide +kernel
theorem dX4_read_38 : decode cX4_read 38 = .ok (.aload_n 0, 1) := by decide +kernel
theorem dX4_read_39 : decode cX4_read 39 = .ok (.dup, 1) := by decide +kernel
theorem dX4_read_40 : decode cX4_read 40 = .ok (.getfield 22, 3) := by decide +kernel
theorem dX4_read_43 : decode cX4_read 43 = .ok (.iconst 1, 1) := by decide +kernel
theorem dX4_read_44 : decode cX4_read 44 = .ok (.iadd, 1) := by decide +kernel
theorem dX4_read_45 : decode cX4_read 45 = .ok (.putfield 22, 3) := by decide +kernel
theorem dX4_read_48 : decode cX4_read 48 = .ok (.aload_n 1, 1) := by decide +kernel
theorem dX4_read_49 : decode cX4_read 49 = .ok (.aload_n 0, 1) := by decide +kernel
theorem dX4_read_50 : decode cX4_read 50 = .ok (.getfield 18, 3) := by decide +kernel
theorem dX4_read_53 : decode cX4_read 53 = .ok (.invokevirtual 29, 3) := by decide +kernel
theorem dX4_read_56 : decode cX4_read 56 = .ok (.bipush 59, 2) := by decide +kernel
theorem dX4_read_58 : decode cX4_read 58 = .ok (.if_icmp .ne 16, 3) := by decide +kernel
theorem dX4_read_61 : decode cX4_read 61 = .ok (.aload_n 0, 1) := by decide +kernel
theorem dX4_read_62 : decode cX4_read 62 = .ok (.getfield 22, 3) := by decide +kernel
theorem dX4_read_65 : decode cX4_read 65 = .ok (.bipush 24, 2) := by decide +kernel
theorem dX4_read_67 : decode cX4_read 67 = .ok (.if_icmp .ge 7, 3) := by decide +kernel
theorem dX4_read_70 : decode cX4_read 70 = .ok (.iconst 1, 1) := by decide +kernel
theorem dX4_read_71 : decode cX4_read 71 = .ok (.goto 4, 3) := by decide +kernel
theorem dX4_read_74 : decode cX4_read 74 = .ok (.iconst 0, 1) := by decide +kernel
theorem dX4_read_75 : decode cX4_read 75 = .ok (.istore_n 2, 1) := by decide +kernel
theorem dX4_read_76 : decode cX4_read 76 = .ok (.iload_n 2, 1) := by decide +kernel
theorem dX4_read_77 : decode cX4_read 77 = .ok (.ifCond .eq (-65), 3) := by decide +kernel
theorem dX4_read_80 : decode cX4_read 80 = .ok (.aload_n 0, 1) := by decide +kernel
theorem dX4_read_81 : decode cX4_read 81 = .ok (.dup, 1) := by decide +kernel
theorem dX4_read_82 : decode cX4_read 82 = .ok (.getfield 18, 3) := by decide +kernel
theorem dX4_read_85 : decode cX4_read 85 = .ok (.iconst 1, 1) := by decide +kernel
theorem dX4_read_86 : decode cX4_read 86 = .ok (.iadd, 1) := by decide +kernel
theorem dX4_read_87 : decode cX4_read 87 = .ok (.putfield 18, 3) := by decide +kernel
theorem dX4_read_90 : decode cX4_read 90 = .ok (.goto (-78), 3) := by decide +kernel
theorem dX4_read_93 : decode cX4_read 93 = .ok (.aload_n 0, 1) := by decide +kernel
theorem dX4_read_94 : decode cX4_read 94 = .ok (.getfield 18, 3) := by decide +kernel
theorem dX4_read_97 : decode cX4_read 97 = .ok (.aload_n 1, 1) := by decide +kernel
theorem dX4_read_98 : decode cX4_read 98 = .ok (.getfield 35, 3) := by decide +kernel
theorem dX4_read_101 : decode cX4_read 101 = .ok (.if_icmp .ge 10, 3) := by decide +kernel
theorem dX4_read_104 : decode cX4_read 104 = .ok (.aload_n 0, 1) := by decide +kernel
theorem dX4_read_105 : decode cX4_read 105 = .ok (.getfield 18, 3) := by decide +kernel
theorem dX4_read_108 : decode cX4_read 108 = .ok (.goto 7, 3) := by decide +kernel
theorem dX4_read_111 : decode cX4_read 111 = .ok (.aload_n 0, 1) := by decide +kernel
theorem dX4_read_112 : decode cX4_read 112 = .ok (.invokevirtual 36, 3) := by decide +kernel
theorem dX4_read_115 : decode cX4_read 115 = .ok (.ireturn, 1) := by decide +kernel
set_option maxRecDepth 20000 in
theorem ggX4_readStep_X6_at : GoodIn wsX4_readStep wsX6_at := goodIn_r _ [8, 9, 10, 27, 28] (by decide +kernel) (by decide +kernel)
set_option maxRecDepth 20000 in
theorem gX4_readStep_X6_at_n29 : GoodIn wsX4_readStep (wsX6_at) := ggX4_readStep_X6_at
set_option maxRecDepth 20000 in
theorem ggX4_readStep_X4_readNumber : GoodIn wsX4_readStep wsX4_readNumber := goodIn_r _ [15, 1, 4, 3, 5, 6, 7, 8, 9, 10, 16, 17, 14, 18, 23, 24, 25, 26, 27, 28] (by decide +kernel) (by decide +kernel)
set_option maxRecDepth 20000 in
theorem gX4_readStep_X4_readNumber : GoodIn wsX4_readStep (wsV RX4 40 RX4 yX4_readNumber wsX4_readNumber) := goodIn_app (goodIn_of _ (by decide +kernel)) ggX4_readStep_X4_readNumber
set_option maxRecDepth 20000 in
theorem ggX4_readStep_X4_readCell : GoodIn wsX4_readStep wsX4_readCell := goodIn_r _ [22, 1, 4, 3, 5, 6, 7, 8, 9, 10, 23, 24, 25, 26, 27, 28] (by decide +kernel) (by decide +kernel)
set_option maxRecDepth 20000 in
theorem gX4_readStep_X4_readCell : GoodIn wsX4_readStep (wsV RX4 44 RX4 yX4_readCell wsX4_readCell) := goodIn_app (goodIn_of _ (by decide +kernel)) ggX4_readStep_X4_readCell
theorem dX4_readStep_0 : decode cX4_readStep 0 = .ok (.aload_n 1, 1) := by decide +kernel
theorem dX4_readStep_1 : decode cX4_readStep 1 = .ok (.aload_n 0, 1) := by decide +kernel
theorem dX4_readStep_2 : decode cX4_readStep 2 = .ok (.getfield 18, 3) := by decide +kernel
theorem dX4_readStep_5 : decode cX4_readStep 5 = .ok (.invokevirtual 29, 3) := by decide +kernel
theorem dX4_readStep_8 : decode cX4_readStep 8 = .ok (.istore_n 2, 1) := by decide +kernel
theorem dX4_readStep_9 : decode cX4_readStep 9 = .ok (.aload_n 0, 1) := by decide +kernel
theorem dX4_readStep_10 : decode cX4_readStep 10 = .ok (.getfield 9, 3) := by decide +kernel
theorem dX4_readStep_13 : decode cX4_readStep 13 = .ok (.aload_n 0, 1) := by decide +kernel
theorem dX4_readStep_14 : decode cX4_readStep 14 = .ok (.getfield 22, 3) := by decide +kernel
theorem dX4_readStep_17 : decode cX4_readStep 17 = .ok (.iload_n 2, 1) := by decide +kernel
theorem dX4_readStep_18 : decode cX4_readStep 18 = .ok (.iastore, 1) := by decide +kernel
theorem dX4_readStep_19 : decode cX4_readStep 19 = .ok (.aload_n 0, 1) := by decide +kernel
theorem dX4_readStep_20 : decode cX4_readStep 20 = .ok (.getfield 15, 3) := by decide +kernel
theorem dX4_readStep_23 : decode cX4_readStep 23 = .ok (.aload_n 0, 1) := by decide +kernel
theorem dX4_readStep_24 : decode cX4_readStep 24 = .ok (.getfield 22, 3) := by decide +kernel
theorem dX4_readStep_27 : decode cX4_readStep 27 = .ok (.iconst 0, 1) := by decide +kernel
theorem dX4_readStep_28 : decode cX4_readStep 28 = .ok (.iastore, 1) := by decide +kernel
theorem dX4_readStep_29 : decode cX4_readStep 29 = .ok (.iload_n 2, 1) := by decide +kernel
theorem dX4_readStep_30 : decode cX4_readStep 30 = .ok (.lookupswitch 184 #[(42, 122), (43, 122), (45, 122), (60, 122), (61, 122), (97, 122), (98, 122), (103, 151), (104, 122), (106, 151), (108, 168), (111, 122), (112, 134), (115, 168)], 122) := by decide +kernel
theorem dX4_readStep_152 : decode cX4_readStep 152 = .ok (.aload_n 0, 1) := by decide +kernel
theorem dX4_readStep_153 : decode cX4_readStep 153 = .ok (.dup, 1) := by decide +kernel
theorem dX4_readStep_154 : decode cX4_readStep 154 = .ok (.getfield 18, 3) := by decide +kernel
theorem dX4_readStep_157 : decode cX4_readStep 157 = .ok (.iconst 1, 1) := by decide +kernel
theorem dX4_readStep_158 : decode cX4_readStep 158 = .ok (.iadd, 1) := by decide +kernel
theorem dX4_readStep_159 : decode cX4_readStep 159 = .ok (.putfield 18, 3) := by decide +kernel
theorem dX4_readStep_162 : decode cX4_readStep 162 = .ok (.iconst 1, 1) := by decide +kernel
theorem dX4_readStep_163 : decode cX4_readStep 163 = .ok (.ireturn, 1) := by decide +kernel
theorem dX4_readStep_164 : decode cX4_readStep 164 = .ok (.aload_n 0, 1) := by decide +kernel
theorem dX4_readStep_165 : decode cX4_readStep 165 = .ok (.dup, 1) := by decide +kernel
theorem dX4_readStep_166 : decode cX4_readStep 166 = .ok (.getfield 18, 3) := by decide +kernel
theorem dX4_readStep_169 : decode cX4_readStep 169 = .ok (.iconst 1, 1) := by decide +kernel
theorem dX4_readStep_170 : decode cX4_readStep 170 = .ok (.iadd, 1) := by decide +kernel
theorem dX4_readStep_171 : decode cX4_readStep 171 = .ok (.putfield 18, 3) := by decide +kernel
theorem dX4_readStep_174 : decode cX4_readStep 174 = .ok (.aload_n 0, 1) := by decide +kernel
theorem dX4_readStep_175 : decode cX4_readStep 175 = .ok (.aload_n 1, 1) := by decide +kernel
theorem dX4_readStep_176 : decode cX4_readStep 176 = .ok (.iconst 4, 1) := by decide +kernel
theorem dX4_readStep_177 : decode cX4_readStep 177 = .ok (.invokevirtual 40, 3) := by decide +kernel
theorem dX4_readStep_180 : decode cX4_readStep 180 = .ok (.ireturn, 1) := by decide +kernel
theorem dX4_readStep_181 : decode cX4_readStep 181 = .ok (.aload_n 0, 1) := by decide +kernel
theorem dX4_readStep_182 : decode cX4_readStep 182 = .ok (.dup, 1) := by decide +kernel
theorem dX4_readStep_183 : decode cX4_readStep 183 = .ok (.getfield 18, 3) := by decide +kernel
theorem dX4_readStep_186 : decode cX4_readStep 186 = .ok (.iconst 1, 1) := by decide +kernel
theorem dX4_readStep_187 : decode cX4_readStep 187 = .ok (.iadd, 1) := by decide +kernel
theorem dX4_readStep_188 : decode cX4_readStep 188 = .ok (.putfield 18, 3) := by decide +kernel
theorem dX4_readStep_191 : decode cX4_readStep 191 = .ok (.aload_n 0, 1) := by decide +kernel
theorem dX4_readStep_192 : decode cX4_readStep 192 = .ok (.aload_n 1, 1) := by decide +kernel
theorem dX4_readStep_193 : decode cX4_readStep 193 = .ok (.iconst 2, 1) := by decide +kernel
theorem dX4_readStep_194 : decode cX4_readStep 194 = .ok (.invokevirtual 40, 3) := by decide +kernel
theorem dX4_readStep_197 : decode cX4_readStep 197 = .ok (.ireturn, 1) := by decide +kernel
theorem dX4_readStep_198 : decode cX4_readStep 198 = .ok (.aload_n 0, 1) := by decide +kernel
theorem dX4_readStep_199 : decode cX4_readStep 199 = .ok (.dup, 1) := by decide +kernel
theorem dX4_readStep_200 : decode cX4_readStep 200 = .ok (.getfield 18, 3) := by decide +kernel
theorem dX4_readStep_203 : decode cX4_readStep 203 = .ok (.iconst 1, 1) := by decide +kernel
theorem dX4_readStep_204 : decode cX4_readStep 204 = .ok (.iadd, 1) := by decide +kernel
theorem dX4_readStep_205 : decode cX4_readStep 205 = .ok (.putfield 18, 3) := by decide +kernel
theorem dX4_readStep_208 : decode cX4_readStep 208 = .ok (.aload_n 0, 1) := by decide +kernel
theorem dX4_readStep_209 : decode cX4_readStep 209 = .ok (.aload_n 1, 1) := by decide +kernel
theorem dX4_readStep_210 : decode cX4_readStep 210 = .ok (.invokevirtual 44, 3) := by decide +kernel
theorem dX4_readStep_213 : decode cX4_readStep 213 = .ok (.ireturn, 1) := by decide +kernel
theorem dX4_readStep_214 : decode cX4_readStep 214 = .ok (.iconst 0, 1) := by decide +kernel
theorem dX4_readStep_215 : decode cX4_readStep 215 = .ok (.ireturn, 1) := by decide +kernel
set_option maxRecDepth 20000 in
theorem ggX4_readNumber_X6_at : GoodIn wsX4_readNumber wsX6_at := goodIn_r _ [7, 8, 9, 18, 19] (by decide +kernel) (by decide +kernel)
set_option maxRecDepth 20000 in
theorem gX4_readNumber_X6_at_n29 : GoodIn wsX4_readNumber (wsX6_at) := ggX4_readNumber_X6_at
set_option maxRecDepth 20000 in
theorem ggX4_readNumber_X4_isDigit : GoodIn wsX4_readNumber wsX4_isDigit := goodIn_r _ [13] (by decide +kernel) (by decide +kernel)
set_option maxRecDepth 20000 in
theorem gX4_readNumber_X4_isDigit : GoodIn wsX4_readNumber (va_wsS RX4 47 yX4_isDigit wsX4_isDigit) := goodIn_app (goodIn_of _ (by decide +kernel)) ggX4_readNumber_X4_isDigit
theorem dX4_readNumber_0 : decode cX4_readNumber 0 = .ok (.iconst 0, 1) := by decide +kernel
theorem dX4_readNumber_1 : decode cX4_readNumber 1 = .ok (.istore_n 3, 1) := by decide +kernel
theorem dX4_readNumber_2 : decode cX4_readNumber 2 = .ok (.iconst 0, 1) := by decide +kernel
theorem dX4_readNumber_3 : decode cX4_readNumber 3 = .ok (.istore 4, 2) := by decide +kernel
theorem dX4_readNumber_5 : decode cX4_readNumber 5 = .ok (.iload 4, 2) := by decide +kernel
theorem dX4_readNumber_7 : decode cX4_readNumber 7 = .ok (.iload_n 2, 1) := by decide +kernel
theorem dX4_readNumber_8 : decode cX4_readNumber 8 = .ok (.if_icmp .ge 59, 3) := by decide +kernel
theorem dX4_readNumber_11 : decode cX4_readNumber 11 = .ok (.aload_n 1, 1) := by decide +kernel
theorem dX4_readNumber_12 : decode cX4_readNumber 12 = .ok (.aload_n 0, 1) := by decide +kernel
theorem dX4_readNumber_13 : decode cX4_readNumber 13 = .ok (.getfield 18, 3) := by decide +kernel
theorem dX4_readNumber_16 : decode cX4_readNumber 16 = .ok (.invokevirtual 29, 3) := by decide +kernel
theorem dX4_readNumber_19 : decode cX4_readNumber 19 = .ok (.invokestatic 47, 3) := by decide +kernel
theorem dX4_readNumber_22 : decode cX4_readNumber 22 = .ok (.ifCond .eq 45, 3) := by decide +kernel
theorem dX4_readNumber_25 : decode cX4_readNumber 25 = .ok (.iload 4, 2) := by decide +kernel
theorem dX4_readNumber_27 : decode cX4_readNumber 27 = .ok (.ifCond .eq 7, 3) := by decide +kernel
theorem dX4_readNumber_30 : decode cX4_readNumber 30 = .ok (.iload_n 3, 1) := by decide +kernel
theorem dX4_readNumber_31 : decode cX4_readNumber 31 = .ok (.ifCond .le 36, 3) := by decide +kernel
theorem dX4_readNumber_34 : decode cX4_readNumber 34 = .ok (.iload_n 3, 1) := by decide +kernel
theorem dX4_readNumber_35 : decode cX4_readNumber 35 = .ok (.bipush 10, 2) := by decide +kernel
theorem dX4_readNumber_37 : decode cX4_readNumber 37 = .ok (.imul, 1) := by decide +kernel
theorem dX4_readNumber_38 : decode cX4_readNumber 38 = .ok (.aload_n 1, 1) := by decide +kernel
theorem dX4_readNumber_39 : decode cX4_readNumber 39 = .ok (.aload_n 0, 1) := by decide +kernel
theorem dX4_readNumber_40 : decode cX4_readNumber 40 = .ok (.getfield 18, 3) := by decide +kernel
theorem dX4_readNumber_43 : decode cX4_readNumber 43 = .ok (.invokevirtual 29, 3) := by decide +kernel
theorem dX4_readNumber_46 : decode cX4_readNumber 46 = .ok (.iadd, 1) := by decide +kernel
theorem dX4_readNumber_47 : decode cX4_readNumber 47 = .ok (.bipush 48, 2) := by decide +kernel
theorem dX4_readNumber_49 : decode cX4_readNumber 49 = .ok (.isub, 1) := by decide +kernel
theorem dX4_readNumber_50 : decode cX4_readNumber 50 = .ok (.istore_n 3, 1) := by decide +kernel
theorem dX4_readNumber_51 : decode cX4_readNumber 51 = .ok (.iinc 4 1, 3) := by decide +kernel
theorem dX4_readNumber_54 : decode cX4_readNumber 54 = .ok (.aload_n 0, 1) := by decide +kernel
theorem dX4_readNumber_55 : decode cX4_readNumber 55 = .ok (.dup, 1) := by decide +kernel
theorem dX4_readNumber_56 : decode cX4_readNumber 56 = .ok (.getfield 18, 3) := by decide +kernel
theorem dX4_readNumber_59 : decode cX4_readNumber 59 = .ok (.iconst 1, 1) := by decide +kernel
theorem dX4_readNumber_60 : decode cX4_readNumber 60 = .ok (.iadd, 1) := by decide +kernel
theorem dX4_readNumber_61 : decode cX4_readNumber 61 = .ok (.putfield 18, 3) := by decide +kernel
theorem dX4_readNumber_64 : decode cX4_readNumber 64 = .ok (.goto (-59), 3) := by decide +kernel
theorem dX4_readNumber_67 : decode cX4_readNumber 67 = .ok (.aload_n 0, 1) := by decide +kernel
theorem dX4_readNumber_68 : decode cX4_readNumber 68 = .ok (.getfield 15, 3) := by decide +kernel
theorem dX4_readNumber_71 : decode cX4_readNumber 71 = .ok (.aload_n 0, 1) := by decide +kernel
theorem dX4_readNumber_72 : decode cX4_readNumber 72 = .ok (.getfield 22, 3) := by decide +kernel
theorem dX4_readNumber_75 : decode cX4_readNumber 75 = .ok (.iload_n 3, 1) := by decide +kernel
theorem dX4_readNumber_76 : decode cX4_readNumber 76 = .ok (.iastore, 1) := by decide +kernel
theorem dX4_readNumber_77 : decode cX4_readNumber 77 = .ok (.iload 4, 2) := by decide +kernel
theorem dX4_readNumber_79 : decode cX4_readNumber 79 = .ok (.ifCond .le 7, 3) := by decide +kernel
theorem dX4_readNumber_82 : decode cX4_readNumber 82 = .ok (.iconst 1, 1) := by decide +kernel
theorem dX4_readNumber_83 : decode cX4_readNumber 83 = .ok (.goto 4, 3) := by decide +kernel
theorem dX4_readNumber_86 : decode cX4_readNumber 86 = .ok (.iconst 0, 1) := by decide +kernel
theorem dX4_readNumber_87 : decode cX4_readNumber 87 = .ok (.ireturn, 1) := by decide +kernel
set_option maxRecDepth 20000 in
theorem ggX4_readCell_X6_at : GoodIn wsX4_readCell wsX6_at := goodIn_r _ [7, 8, 9, 14, 15] (by decide +kernel) (by decide +kernel)
set_option maxRecDepth 20000 in
theorem gX4_readCell_X6_at_n29 : GoodIn wsX4_readCell (wsX6_at) := ggX4_readCell_X6_at
theorem dX4_readCell_0 : decode cX4_readCell 0 = .ok (.aload_n 1, 1) := by decide +kernel
theorem dX4_readCell_1 : decode cX4_readCell 1 = .ok (.aload_n 0, 1) := by decide +kernel
theorem dX4_readCell_2 : decode cX4_readCell 2 = .ok (.getfield 18, 3) := by decide +kernel
theorem dX4_readCell_5 : decode cX4_readCell 5 = .ok (.invokevirtual 29, 3) := by decide +kernel
theorem dX4_readCell_8 : decode cX4_readCell 8 = .ok (.bipush 48, 2) := by decide +kernel
theorem dX4_readCell_10 : decode cX4_readCell 10 = .ok (.isub, 1) := by decide +kernel
theorem dX4_readCell_11 : decode cX4_readCell 11 = .ok (.istore_n 2, 1) := by decide +kernel
theorem dX4_readCell_12 : decode cX4_readCell 12 = .ok (.iload_n 2, 1) := by decide +kernel
theorem dX4_readCell_13 : decode cX4_readCell 13 = .ok (.ifCond .lt 9, 3) := by decide +kernel
theorem dX4_readCell_16 : decode cX4_readCell 16 = .ok (.iload_n 2, 1) := by decide +kernel
theorem dX4_readCell_17 : decode cX4_readCell 17 = .ok (.bipush 8, 2) := by decide +kernel
theorem dX4_readCell_19 : decode cX4_readCell 19 = .ok (.if_icmp .lt 5, 3) := by decide +kernel
theorem dX4_readCell_22 : decode cX4_readCell 22 = .ok (.iconst 0, 1) := by decide +kernel
theorem dX4_readCell_23 : decode cX4_readCell 23 = .ok (.ireturn, 1) := by decide +kernel
theorem dX4_readCell_24 : decode cX4_readCell 24 = .ok (.aload_n 0, 1) := by decide +kernel
theorem dX4_readCell_25 : decode cX4_readCell 25 = .ok (.getfield 15, 3) := by decide +kernel
theorem dX4_readCell_28 : decode cX4_readCell 28 = .ok (.aload_n 0, 1) := by decide +kernel
theorem dX4_readCell_29 : decode cX4_readCell 29 = .ok (.getfield 22, 3) := by decide +kernel
theorem dX4_readCell_32 : decode cX4_readCell 32 = .ok (.iload_n 2, 1) := by decide +kernel
theorem dX4_readCell_33 : decode cX4_readCell 33 = .ok (.iastore, 1) := by decide +kernel
theorem dX4_readCell_34 : decode cX4_readCell 34 = .ok (.aload_n 0, 1) := by decide +kernel
theorem dX4_readCell_35 : decode cX4_readCell 35 = .ok (.dup, 1) := by decide +kernel
theorem dX4_readCell_36 : decode cX4_readCell 36 = .ok (.getfield 18, 3) := by decide +kernel
theorem dX4_readCell_39 : decode cX4_readCell 39 = .ok (.iconst 1, 1) := by decide +kernel
theorem dX4_readCell_40 : decode cX4_readCell 40 = .ok (.iadd, 1) := by decide +kernel
theorem dX4_readCell_41 : decode cX4_readCell 41 = .ok (.putfield 18, 3) := by decide +kernel
theorem dX4_readCell_44 : decode cX4_readCell 44 = .ok (.iconst 1, 1) := by decide +kernel
theorem dX4_readCell_45 : decode cX4_readCell 45 = .ok (.ireturn, 1) := by decide +kernel
theorem dX4_isDigit_0 : decode cX4_isDigit 0 = .ok (.iload_n 0, 1) := by decide +kernel
theorem dX4_isDigit_1 : decode cX4_isDigit 1 = .ok (.bipush 48, 2) := by decide +kernel
theorem dX4_isDigit_3 : decode cX4_isDigit 3 = .ok (.if_icmp .lt 13, 3) := by decide +kernel
theorem dX4_isDigit_6 : decode cX4_isDigit 6 = .ok (.iload_n 0, 1) := by decide +kernel
theorem dX4_isDigit_7 : decode cX4_isDigit 7 = .ok (.bipush 57, 2) := by decide +kernel
theorem dX4_isDigit_9 : decode cX4_isDigit 9 = .ok (.if_icmp .gt 7, 3) := by decide +kernel
theorem dX4_isDigit_12 : decode cX4_isDigit 12 = .ok (.iconst 1, 1) := by decide +kernel
theorem dX4_isDigit_13 : decode cX4_isDigit 13 = .ok (.goto 4, 3) := by decide +kernel
theorem dX4_isDigit_16 : decode cX4_isDigit 16 = .ok (.iconst 0, 1) := by decide +kernel
theorem dX4_isDigit_17 : decode cX4_isDigit 17 = .ok (.ireturn, 1) := by decide +kernel
theorem dX4_lostStep_0 : decode cX4_lostStep 0 = .ok (.iconst 0, 1) := by decide +kernel
theorem dX4_lostStep_1 : decode cX4_lostStep 1 = .ok (.istore_n 1, 1) := by decide +kernel
theorem dX4_lostStep_2 : decode cX4_lostStep 2 = .ok (.iload_n 1, 1) := by decide +kernel
theorem dX4_lostStep_3 : decode cX4_lostStep 3 = .ok (.aload_n 0, 1) := by decide +kernel
theorem dX4_lostStep_4 : decode cX4_lostStep 4 = .ok (.getfield 22, 3) := by decide +kernel
theorem dX4_lostStep_7 : decode cX4_lostStep 7 = .ok (.if_icmp .ge 60, 3) := by decide +kernel
theorem dX4_lostStep_10 : decode cX4_lostStep 10 = .ok (.aload_n 0, 1) := by decide +kernel
theorem dX4_lostStep_11 : decode cX4_lostStep 11 = .ok (.getfield 9, 3) := by decide +kernel
theorem dX4_lostStep_14 : decode cX4_lostStep 14 = .ok (.iload_n 1, 1) := by decide +kernel
theorem dX4_lostStep_15 : decode cX4_lostStep 15 = .ok (.iaload, 1) := by decide +kernel
theorem dX4_lostStep_16 : decode cX4_lostStep 16 = .ok (.bipush 106, 2) := by decide +kernel
theorem dX4_lostStep_18 : decode cX4_lostStep 18 = .ok (.if_icmp .eq 14, 3) := by decide +kernel
theorem dX4_lostStep_21 : decode cX4_lostStep 21 = .ok (.aload_n 0, 1) := by decide +kernel
theorem dX4_lostStep_22 : decode cX4_lostStep 22 = .ok (.getfield 9, 3) := by decide +kernel
theorem dX4_lostStep_25 : decode cX4_lostStep 25 = .ok (.iload_n 1, 1) := by decide +kernel
theorem dX4_lostStep_26 : decode cX4_lostStep 26 = .ok (.iaload, 1) := by decide +kernel
theorem dX4_lostStep_27 : decode cX4_lostStep 27 = .ok (.bipush 103, 2) := by decide +kernel
theorem dX4_lostStep_29 : decode cX4_lostStep 29 = .ok (.if_icmp .ne 7, 3) := by decide +kernel
theorem dX4_lostStep_32 : decode cX4_lostStep 32 = .ok (.iconst 1, 1) := by decide +kernel
theorem dX4_lostStep_33 : decode cX4_lostStep 33 = .ok (.goto 4, 3) := by decide +kernel
theorem dX4_lostStep_36 : decode cX4_lostStep 36 = .ok (.iconst 0, 1) := by decide +kernel
theorem dX4_lostStep_37 : decode cX4_lostStep 37 = .ok (.istore_n 2, 1) := by decide +kernel
theorem dX4_lostStep_38 : decode cX4_lostStep 38 = .ok (.iload_n 2, 1) := by decide +kernel
theorem dX4_lostStep_39 : decode cX4_lostStep 39 = .ok (.ifCond .eq 22, 3) := by decide +kernel
theorem dX4_lostStep_42 : decode cX4_lostStep 42 = .ok (.aload_n 0, 1) := by decide +kernel
theorem dX4_lostStep_43 : decode cX4_lostStep 43 = .ok (.getfield 15, 3) := by decide +kernel
theorem dX4_lostStep_46 : decode cX4_lostStep 46 = .ok (.iload_n 1, 1) := by decide +kernel
theorem dX4_lostStep_47 : decode cX4_lostStep 47 = .ok (.iaload, 1) := by decide +kernel
theorem dX4_lostStep_48 : decode cX4_lostStep 48 = .ok (.aload_n 0, 1) := by decide +kernel
theorem dX4_lostStep_49 : decode cX4_lostStep 49 = .ok (.getfield 22, 3) := by decide +kernel
theorem dX4_lostStep_52 : decode cX4_lostStep 52 = .ok (.if_icmp .lt 9, 3) := by decide +kernel
theorem dX4_lostStep_55 : decode cX4_lostStep 55 = .ok (.sipush 200, 3) := by decide +kernel
theorem dX4_lostStep_58 : decode cX4_lostStep 58 = .ok (.iload_n 1, 1) := by decide +kernel
theorem dX4_lostStep_59 : decode cX4_lostStep 59 = .ok (.iadd, 1) := by decide +kernel
theorem dX4_lostStep_60 : decode cX4_lostStep 60 = .ok (.ireturn, 1) := by decide +kernel
theorem dX4_lostStep_61 : decode cX4_lostStep 61 = .ok (.iinc 1 1, 3) := by decide +kernel
theorem dX4_lostStep_64 : decode cX4_lostStep 64 = .ok (.goto (-62), 3) := by decide +kernel
theorem dX4_lostStep_67 : decode cX4_lostStep 67 = .ok (.iconst (-1), 1) := by decide +kernel
theorem dX4_lostStep_68 : decode cX4_lostStep 68 = .ok (.ireturn, 1) := by decide +kernel
set_option maxRecDepth 20000 in
theorem ggX4_program_X3_init : GoodIn wsX4_program wsX3_init := goodIn_r _ [8, 9, 10, 11, 12, 13, 14, 15, 16, 17, 18, 19, 20, 21, 22] (by decide +kernel) (by decide +kernel)
set_option maxRecDepth 20000 in
theorem gX4_program_X3_init_n53 : GoodIn wsX4_program (wsX3_init) := ggX4_program_X3_init
theorem dX4_program_0 : decode cX4_program 0 = .ok (.new 51, 3) := by decide +kernel
theorem dX4_program_3 : decode cX4_program 3 = .ok (.dup, 1) := by decide +kernel
theorem dX4_program_4 : decode cX4_program 4 = .ok (.aload_n 0, 1) := by decide +kernel
theorem dX4_program_5 : decode cX4_program 5 = .ok (.getfield 9, 3) := by decide +kernel
theorem dX4_program_8 : decode cX4_program 8 = .ok (.aload_n 0, 1) := by decide +kernel
theorem dX4_program_9 : decode cX4_program 9 = .ok (.getfield 15, 3) := by decide +kernel
theorem dX4_program_12 : decode cX4_program 12 = .ok (.aload_n 0, 1) := by decide +kernel
theorem dX4_program_13 : decode cX4_program 13 = .ok (.getfield 22, 3) := by decide +kernel
theorem dX4_program_16 : decode cX4_program 16 = .ok (.invokespecial 53, 3) := by decide +kernel
theorem dX4_program_19 : decode cX4_program 19 = .ok (.areturn, 1) := by decide +kernel
theorem dX5_init_0 : decode cX5_init 0 = .ok (.aload_n 0, 1) := by decide +kernel
theorem dX5_init_1 : decode cX5_init 1 = .ok (.invokespecial 3, 3) := by decide +kernel
theorem dX5_init_4 : decode cX5_init 4 = .ok (.aload_n 0, 1) := by decide +kernel
theorem dX5_init_5 : decode cX5_init 5 = .ok (.bipush 8, 2) := by decide +kernel
theorem dX5_init_7 : decode cX5_init 7 = .ok (.newarray .int, 2) := by decide +kernel
theorem dX5_init_9 : decode cX5_init 9 = .ok (.putfield 9, 3) := by decide +kernel
theorem dX5_init_12 : decode cX5_init 12 = .ok (.aload_n 0, 1) := by decide +kernel
theorem dX5_init_13 : decode cX5_init 13 = .ok (.bipush 101, 2) := by decide +kernel
theorem dX5_init_15 : decode cX5_init 15 = .ok (.newarray .int, 2) := by decide +kernel
theorem dX5_init_17 : decode cX5_init 17 = .ok (.putfield 15, 3) := by decide +kernel
theorem dX5_init_20 : decode cX5_init 20 = .ok (.aload_n 0, 1) := by decide +kernel
theorem dX5_init_21 : decode cX5_init 21 = .ok (.sipush 500, 3) := by decide +kernel
theorem dX5_init_24 : decode cX5_init 24 = .ok (.newarray .int, 2) := by decide +kernel
theorem dX5_init_26 : decode cX5_init 26 = .ok (.putfield 18, 3) := by decide +kernel
theorem dX5_init_29 : decode cX5_init 29 = .ok (.aload_n 0, 1) := by decide +kernel
theorem dX5_init_30 : decode cX5_init 30 = .ok (.iconst 3, 1) := by decide +kernel
theorem dX5_init_31 : decode cX5_init 31 = .ok (.newarray .int, 2) := by decide +kernel
theorem dX5_init_33 : decode cX5_init 33 = .ok (.putfield 21, 3) := by decide +kernel
theorem dX5_init_36 : decode cX5_init 36 = .ok (.aload_n 0, 1) := by decide +kernel
theorem dX5_init_37 : decode cX5_init 37 = .ok (.iconst 3, 1) := by decide +kernel
theorem dX5_init_38 : decode cX5_init 38 = .ok (.newarray .int, 2) := by decide +kernel
theorem dX5_init_40 : decode cX5_init 40 = .ok (.putfield 24, 3) := by decide +kernel
theorem dX5_init_43 : decode cX5_init 43 = .ok (.aload_n 0, 1) := by decide +kernel
theorem dX5_init_44 : decode cX5_init 44 = .ok (.iconst 3, 1) := by decide +kernel
theorem dX5_init_45 : decode cX5_init 45 = .ok (.newarray .int, 2) := by decide +kernel
theorem dX5_init_47 : decode cX5_init 47 = .ok (.putfield 27, 3) := by decide +kernel
theorem dX5_init_50 : decode cX5_init 50 = .ok (.aload_n 0, 1) := by decide +kernel
theorem dX5_init_51 : decode cX5_init 51 = .ok (.iconst 3, 1) := by decide +kernel
theorem dX5_init_52 : decode cX5_init 52 = .ok (.newarray .int, 2) := by decide +kernel
theorem dX5_init_54 : decode cX5_init 54 = .ok (.putfield 30, 3) := by decide +kernel
theorem dX5_init_57 : decode cX5_init 57 = .ok (.aload_n 0, 1) := by decide +kernel
theorem dX5_init_58 : decode cX5_init 58 = .ok (.iload_n 1, 1) := by decide +kernel
theorem dX5_init_59 : decode cX5_init 59 = .ok (.putfield 33, 3) := by decide +kernel
theorem dX5_init_62 : decode cX5_init 62 = .ok (.aload_n 0, 1) := by decide +kernel
theorem dX5_init_63 : decode cX5_init 63 = .ok (.iload_n 2, 1) := by decide +kernel
theorem dX5_init_64 : decode cX5_init 64 = .ok (.putfield 37, 3) := by decide +kernel
theorem dX5_init_67 : decode cX5_init 67 = .ok (.return_, 1) := by decide +kernel
theorem dX5_takePatch_0 : decode cX5_takePatch 0 = .ok (.aload_n 0, 1) := by decide +kernel
theorem dX5_takePatch_1 : decode cX5_takePatch 1 = .ok (.getfield 40, 3) := by decide +kernel
theorem dX5_takePatch_4 : decode cX5_takePatch 4 = .ok (.ifnull 16, 3) := by decide +kernel
theorem dX5_takePatch_7 : decode cX5_takePatch 7 = .ok (.aload_n 0, 1) := by decide +kernel
theorem dX5_takePatch_8 : decode cX5_takePatch 8 = .ok (.aload_n 0, 1) := by decide +kernel
theorem dX5_takePatch_9 : decode cX5_takePatch 9 = .ok (.getfield 40, 3) := by decide +kernel
theorem dX5_takePatch_12 : decode cX5_takePatch 12 = .ok (.putfield 44, 3) := by decide +kernel
theorem dX5_takePatch_15 : decode cX5_takePatch 15 = .ok (.aload_n 0, 1) := by decide +kernel
theorem dX5_takePatch_16 : decode cX5_takePatch 16 = .ok (.aconst_null, 1) := by decide +kernel
theorem dX5_takePatch_17 : decode cX5_takePatch 17 = .ok (.putfield 40, 3) := by decide +kernel
theorem dX5_takePatch_20 : decode cX5_takePatch 20 = .ok (.return_, 1) := by decide +kernel
theorem dX5_keepCheck_0 : decode cX5_keepCheck 0 = .ok (.aload_n 0, 1) := by decide +kernel
theorem dX5_keepCheck_1 : decode cX5_keepCheck 1 = .ok (.getfield 21, 3) := by decide +kernel
theorem dX5_keepCheck_4 : decode cX5_keepCheck 4 = .ok (.iload_n 1, 1) := by decide +kernel
theorem dX5_keepCheck_5 : decode cX5_keepCheck 5 = .ok (.iload_n 2, 1) := by decide +kernel
theorem dX5_keepCheck_6 : decode cX5_keepCheck 6 = .ok (.iastore, 1) := by decide +kernel
theorem dX5_keepCheck_7 : decode cX5_keepCheck 7 = .ok (.aload_n 0, 1) := by decide +kernel
theorem dX5_keepCheck_8 : decode cX5_keepCheck 8 = .ok (.getfield 24, 3) := by decide +kernel
theorem dX5_keepCheck_11 : decode cX5_keepCheck 11 = .ok (.iload_n 1, 1) := by decide +kernel
theorem dX5_keepCheck_12 : decode cX5_keepCheck 12 = .ok (.iload_n 3, 1) := by decide +kernel
theorem dX5_keepCheck_13 : decode cX5_keepCheck 13 = .ok (.iastore, 1) := by decide +kernel
theorem dX5_keepCheck_14 : decode cX5_keepCheck 14 = .ok (.aload_n 0, 1) := by decide +kernel
theorem dX5_keepCheck_15 : decode cX5_keepCheck 15 = .ok (.getfield 27, 3) := by decide +kernel
theorem dX5_keepCheck_18 : decode cX5_keepCheck 18 = .ok (.iload_n 1, 1) := by decide +kernel
theorem dX5_keepCheck_19 : decode cX5_keepCheck 19 = .ok (.iload 4, 2) := by decide +kernel
theorem dX5_keepCheck_21 : decode cX5_keepCheck 21 = .ok (.iastore, 1) := by decide +kernel
theorem dX5_keepCheck_22 : decode cX5_keepCheck 22 = .ok (.aload_n 0, 1) := by decide +kernel
theorem dX5_keepCheck_23 : decode cX5_keepCheck 23 = .ok (.getfield 30, 3) := by decide +kernel
theorem dX5_keepCheck_26 : decode cX5_keepCheck 26 = .ok (.iload_n 1, 1) := by decide +kernel
theorem dX5_keepCheck_27 : decode cX5_keepCheck 27 = .ok (.iload 5, 2) := by decide +kernel
theorem dX5_keepCheck_29 : decode cX5_keepCheck 29 = .ok (.ifCond .eq 7, 3) := by decide +kernel
theorem dX5_keepCheck_32 : decode cX5_keepCheck 32 = .ok (.iconst 1, 1) := by decide +kernel
theorem dX5_keepCheck_33 : decode cX5_keepCheck 33 = .ok (.goto 4, 3) := by decide +kernel
theorem dX5_keepCheck_36 : decode cX5_keepCheck 36 = .ok (.iconst 0, 1) := by decide +kernel
theorem dX5_keepCheck_37 : decode cX5_keepCheck 37 = .ok (.iastore, 1) := by decide +kernel
theorem dX5_keepCheck_38 : decode cX5_keepCheck 38 = .ok (.return_, 1) := by decide +kernel
theorem dX5_isLikeCheck_0 : decode cX5_isLikeCheck 0 = .ok (.iconst 0, 1) := by decide +kernel
theorem dX5_isLikeCheck_1 : decode cX5_isLikeCheck 1 = .ok (.istore_n 3, 1) := by decide +kernel
theorem dX5_isLikeCheck_2 : decode cX5_isLikeCheck 2 = .ok (.iload_n 3, 1) := by decide +kernel
theorem dX5_isLikeCheck_3 : decode cX5_isLikeCheck 3 = .ok (.iconst 3, 1) := by decide +kernel
theorem dX5_isLikeCheck_4 : decode cX5_isLikeCheck 4 = .ok (.if_icmp .ge 33, 3) := by decide +kernel
theorem dX5_isLikeCheck_7 : decode cX5_isLikeCheck 7 = .ok (.aload_n 0, 1) := by decide +kernel
theorem dX5_isLikeCheck_8 : decode cX5_isLikeCheck 8 = .ok (.getfield 21, 3) := by decide +kernel
theorem dX5_isLikeCheck_11 : decode cX5_isLikeCheck 11 = .ok (.iload_n 3, 1) := by decide +kernel
theorem dX5_isLikeCheck_12 : decode cX5_isLikeCheck 12 = .ok (.iaload, 1) := by decide +kernel
theorem dX5_isLikeCheck_13 : decode cX5_isLikeCheck 13 = .ok (.iconst 1, 1) := by decide +kernel
theorem dX5_isLikeCheck_14 : decode cX5_isLikeCheck 14 = .ok (.iadd, 1) := by decide +kernel
theorem dX5_isLikeCheck_15 : decode cX5_isLikeCheck 15 = .ok (.iload_n 1, 1) := by decide +kernel
theorem dX5_isLikeCheck_16 : decode cX5_isLikeCheck 16 = .ok (.if_icmp .ne 15, 3) := by decide +kernel
theorem dX5_isLikeCheck_19 : decode cX5_isLikeCheck 19 = .ok (.aload_n 0, 1) := by decide +kernel
theorem dX5_isLikeCheck_20 : decode cX5_isLikeCheck 20 = .ok (.getfield 24, 3) := by decide +kernel
theorem dX5_isLikeCheck_23 : decode cX5_isLikeCheck 23 = .ok (.iload_n 3, 1) := by decide +kernel
theorem dX5_isLikeCheck_24 : decode cX5_isLikeCheck 24 = .ok (.iaload, 1) := by decide +kernel
theorem dX5_isLikeCheck_25 : decode cX5_isLikeCheck 25 = .ok (.iload_n 2, 1) := by decide +kernel
theorem dX5_isLikeCheck_26 : decode cX5_isLikeCheck 26 = .ok (.if_icmp .ne 5, 3) := by decide +kernel
theorem dX5_isLikeCheck_29 : decode cX5_isLikeCheck 29 = .ok (.iconst 1, 1) := by decide +kernel
theorem dX5_isLikeCheck_30 : decode cX5_isLikeCheck 30 = .ok (.ireturn, 1) := by decide +kernel
theorem dX5_isLikeCheck_31 : decode cX5_isLikeCheck 31 = .ok (.iinc 3 1, 3) := by decide +kernel
theorem dX5_isLikeCheck_34 : decode cX5_isLikeCheck 34 = .ok (.goto (-32), 3) := by decide +kernel
theorem dX5_isLikeCheck_37 : decode cX5_isLikeCheck 37 = .ok (.iconst 0, 1) := by decide +kernel
theorem dX5_isLikeCheck_38 : decode cX5_isLikeCheck 38 = .ok (.ireturn, 1) := by decide +kernel
theorem dX5_take_0 : decode cX5_take 0 = .ok (.aload_n 0, 1) := by decide +kernel
theorem dX5_take_1 : decode cX5_take 1 = .ok (.getfield 18, 3) := by decide +kernel
theorem dX5_take_4 : decode cX5_take 4 = .ok (.iload_n 1, 1) := by decide +kernel
theorem dX5_take_5 : decode cX5_take 5 = .ok (.bipush 100, 2) := by decide +kernel
theorem dX5_take_7 : decode cX5_take 7 = .ok (.imul, 1) := by decide +kernel
theorem dX5_take_8 : decode cX5_take 8 = .ok (.iload_n 2, 1) := by decide +kernel
theorem dX5_take_9 : decode cX5_take 9 = .ok (.iadd, 1) := by decide +kernel
theorem dX5_take_10 : decode cX5_take 10 = .ok (.iload_n 3, 1) := by decide +kernel
theorem dX5_take_11 : decode cX5_take 11 = .ok (.iastore, 1) := by decide +kernel
theorem dX5_take_12 : decode cX5_take 12 = .ok (.return_, 1) := by decide +kernel
theorem dX5_isTaken_0 : decode cX5_isTaken 0 = .ok (.aload_n 0, 1) := by decide +kernel
theorem dX5_isTaken_1 : decode cX5_isTaken 1 = .ok (.getfield 18, 3) := by decide +kernel
theorem dX5_isTaken_4 : decode cX5_isTaken 4 = .ok (.iload_n 1, 1) := by decide +kernel
theorem dX5_isTaken_5 : decode cX5_isTaken 5 = .ok (.bipush 100, 2) := by decide +kernel
theorem dX5_isTaken_7 : decode cX5_isTaken 7 = .ok (.imul, 1) := by decide +kernel
theorem dX5_isTaken_8 : decode cX5_isTaken 8 = .ok (.iload_n 2, 1) := by decide +kernel
theorem dX5_isTaken_9 : decode cX5_isTaken 9 = .ok (.iadd, 1) := by decide +kernel
theorem dX5_isTaken_10 : decode cX5_isTaken 10 = .ok (.iaload, 1) := by decide +kernel
theorem dX5_isTaken_11 : decode cX5_isTaken 11 = .ok (.istore 4, 2) := by decide +kernel
theorem dX5_isTaken_13 : decode cX5_isTaken 13 = .ok (.iload 4, 2) := by decide +kernel
theorem dX5_isTaken_15 : decode cX5_isTaken 15 = .ok (.ifCond .le 13, 3) := by decide +kernel
theorem dX5_isTaken_18 : decode cX5_isTaken 18 = .ok (.iload 4, 2) := by decide +kernel
theorem dX5_isTaken_20 : decode cX5_isTaken 20 = .ok (.iload_n 3, 1) := by decide +kernel
theorem dX5_isTaken_21 : decode cX5_isTaken 21 = .ok (.if_icmp .gt 7, 3) := by decide +kernel
theorem dX5_isTaken_24 : decode cX5_isTaken 24 = .ok (.iconst 1, 1) := by decide +kernel
theorem dX5_isTaken_25 : decode cX5_isTaken 25 = .ok (.goto 4, 3) := by decide +kernel
theorem dX5_isTaken_28 : decode cX5_isTaken 28 = .ok (.iconst 0, 1) := by decide +kernel
theorem dX5_isTaken_29 : decode cX5_isTaken 29 = .ok (.ireturn, 1) := by decide +kernel
set_option maxRecDepth 20000 in
theorem ggX5_takers_X5_isTaken : GoodIn wsX5_takers wsX5_isTaken := goodIn_r _ [5, 6, 7, 8, 9, 10, 11, 12, 13, 14, 15, 16, 17, 18, 19, 20] (by decide +kernel) (by decide +kernel)
set_option maxRecDepth 20000 in
theorem gX5_takers_X5_isTaken : GoodIn wsX5_takers (wsV RX5 47 RX5 yX5_isTaken wsX5_isTaken) := goodIn_app (goodIn_of _ (by decide +kernel)) ggX5_takers_X5_isTaken
theorem dX5_takers_0 : decode cX5_takers 0 = .ok (.iconst 0, 1) := by decide +kernel
theorem dX5_takers_1 : decode cX5_takers 1 = .ok (.istore_n 3, 1) := by decide +kernel
theorem dX5_takers_2 : decode cX5_takers 2 = .ok (.iconst 0, 1) := by decide +kernel
theorem dX5_takers_3 : decode cX5_takers 3 = .ok (.istore 4, 2) := by decide +kernel
theorem dX5_takers_5 : decode cX5_takers 5 = .ok (.iload 4, 2) := by decide +kernel
theorem dX5_takers_7 : decode cX5_takers 7 = .ok (.iconst 5, 1) := by decide +kernel
theorem dX5_takers_8 : decode cX5_takers 8 = .ok (.if_icmp .ge 23, 3) := by decide +kernel
theorem dX5_takers_11 : decode cX5_takers 11 = .ok (.aload_n 0, 1) := by decide +kernel
theorem dX5_takers_12 : decode cX5_takers 12 = .ok (.iload 4, 2) := by decide +kernel
theorem dX5_takers_14 : decode cX5_takers 14 = .ok (.iload_n 1, 1) := by decide +kernel
theorem dX5_takers_15 : decode cX5_takers 15 = .ok (.iload_n 2, 1) := by decide +kernel
theorem dX5_takers_16 : decode cX5_takers 16 = .ok (.invokevirtual 47, 3) := by decide +kernel
theorem dX5_takers_19 : decode cX5_takers 19 = .ok (.ifCond .eq 6, 3) := by decide +kernel
theorem dX5_takers_22 : decode cX5_takers 22 = .ok (.iinc 3 1, 3) := by decide +kernel
theorem dX5_takers_25 : decode cX5_takers 25 = .ok (.iinc 4 1, 3) := by decide +kernel
theorem dX5_takers_28 : decode cX5_takers 28 = .ok (.goto (-23), 3) := by decide +kernel
theorem dX5_takers_31 : decode cX5_takers 31 = .ok (.iload_n 3, 1) := by decide +kernel
theorem dX5_takers_32 : decode cX5_takers 32 = .ok (.ireturn, 1) := by decide +kernel
theorem dX6_init_0 : decode cX6_init 0 = .ok (.aload_n 0, 1) := by decide +kernel
theorem dX6_init_1 : decode cX6_init 1 = .ok (.invokespecial 3, 3) := by decide +kernel
theorem dX6_init_4 : decode cX6_init 4 = .ok (.aload_n 0, 1) := by decide +kernel
theorem dX6_init_5 : decode cX6_init 5 = .ok (.bipush 120, 2) := by decide +kernel
theorem dX6_init_7 : decode cX6_init 7 = .ok (.newarray .int, 2) := by decide +kernel
theorem dX6_init_9 : decode cX6_init 9 = .ok (.putfield 9, 3) := by decide +kernel
theorem dX6_init_12 : decode cX6_init 12 = .ok (.return_, 1) := by decide +kernel
theorem dX6_append_0 : decode cX6_append 0 = .ok (.iload_n 3, 1) := by decide +kernel
theorem dX6_append_1 : decode cX6_append 1 = .ok (.iconst 1, 1) := by decide +kernel
theorem dX6_append_2 : decode cX6_append 2 = .ok (.isub, 1) := by decide +kernel
theorem dX6_append_3 : decode cX6_append 3 = .ok (.istore 4, 2) := by decide +kernel
theorem dX6_append_5 : decode cX6_append 5 = .ok (.iload 4, 2) := by decide +kernel
theorem dX6_append_7 : decode cX6_append 7 = .ok (.ifCond .lt 40, 3) := by decide +kernel
theorem dX6_append_10 : decode cX6_append 10 = .ok (.aload_n 0, 1) := by decide +kernel
theorem dX6_append_11 : decode cX6_append 11 = .ok (.getfield 9, 3) := by decide +kernel
theorem dX6_append_14 : decode cX6_append 14 = .ok (.aload_n 0, 1) := by decide +kernel
theorem dX6_append_15 : decode cX6_append 15 = .ok (.getfield 15, 3) := by decide +kernel
theorem dX6_append_18 : decode cX6_append 18 = .ok (.lload_n 1, 1) := by decide +kernel
theorem dX6_append_19 : decode cX6_append 19 = .ok (.bipush 8, 2) := by decide +kernel
theorem dX6_append_21 : decode cX6_append 21 = .ok (.iload 4, 2) := by decide +kernel
theorem dX6_append_23 : decode cX6_append 23 = .ok (.imul, 1) := by decide +kernel
theorem dX6_append_24 : decode cX6_append 24 = .ok (.lushr, 1) := by decide +kernel
theorem dX6_append_25 : decode cX6_append 25 = .ok (.ldc2_w 19, 3) := by decide +kernel
theorem dX6_append_28 : decode cX6_append 28 = .ok (.land, 1) := by decide +kernel
theorem dX6_append_29 : decode cX6_append 29 = .ok (.l2i, 1) := by decide +kernel
theorem dX6_append_30 : decode cX6_append 30 = .ok (.iastore, 1) := by decide +kernel
theorem dX6_append_31 : decode cX6_append 31 = .ok (.aload_n 0, 1) := by decide +kernel
theorem dX6_append_32 : decode cX6_append 32 = .ok (.dup, 1) := by decide +kernel
theorem dX6_append_33 : decode cX6_append 33 = .ok (.getfield 15, 3) := by decide +kernel
theorem dX6_append_36 : decode cX6_append 36 = .ok (.iconst 1, 1) := by decide +kernel
theorem dX6_append_37 : decode cX6_append 37 = .ok (.iadd, 1) := by decide +kernel
theorem dX6_append_38 : decode cX6_append 38 = .ok (.putfield 15, 3) := by decide +kernel
theorem dX6_append_41 : decode cX6_append 41 = .ok (.iinc 4 (-1), 3) := by decide +kernel
theorem dX6_append_44 : decode cX6_append 44 = .ok (.goto (-39), 3) := by decide +kernel
theorem dX6_append_47 : decode cX6_append 47 = .ok (.return_, 1) := by decide +kernel
theorem dX6_at_0 : decode cX6_at 0 = .ok (.iload_n 1, 1) := by decide +kernel
theorem dX6_at_1 : decode cX6_at 1 = .ok (.ifCond .lt 20, 3) := by decide +kernel
theorem dX6_at_4 : decode cX6_at 4 = .ok (.iload_n 1, 1) := by decide +kernel
theorem dX6_at_5 : decode cX6_at 5 = .ok (.aload_n 0, 1) := by decide +kernel
theorem dX6_at_6 : decode cX6_at 6 = .ok (.getfield 15, 3) := by decide +kernel
theorem dX6_at_9 : decode cX6_at 9 = .ok (.if_icmp .ge 12, 3) := by decide +kernel
theorem dX6_at_12 : decode cX6_at 12 = .ok (.aload_n 0, 1) := by decide +kernel
theorem dX6_at_13 : decode cX6_at 13 = .ok (.getfield 9, 3) := by decide +kernel
theorem dX6_at_16 : decode cX6_at 16 = .ok (.iload_n 1, 1) := by decide +kernel
theorem dX6_at_17 : decode cX6_at 17 = .ok (.iaload, 1) := by decide +kernel
theorem dX6_at_18 : decode cX6_at 18 = .ok (.goto 4, 3) := by decide +kernel
theorem dX6_at_21 : decode cX6_at 21 = .ok (.iconst (-1), 1) := by decide +kernel
theorem dX6_at_22 : decode cX6_at 22 = .ok (.ireturn, 1) := by decide +kernel
set_option maxRecDepth 20000 in
theorem ggX7_init_Jx4a65c_init_da8c8 : GoodIn wsX7_init wsJx4a65c_init_da8c8 := goodIn_r _ [30, 31, 32, 33, 34, 35, 36, 37, 38, 39, 40, 41, 42, 2, 3, 73, 74, 75] (by decide +kernel) (by decide +kernel)
set_option maxRecDepth 20000 in
theorem gX7_init_Jx4a65c_init_da8c8 : GoodIn wsX7_init (wsJx4a65c_init_da8c8) := ggX7_init_Jx4a65c_init_da8c8
set_option maxRecDepth 20000 in
theorem ggX7_init_X6_init : GoodIn wsX7_init wsX6_init := goodIn_r _ [44, 45, 2, 3, 4, 46, 76, 77] (by decide +kernel) (by decide +kernel)
set_option maxRecDepth 20000 in
theorem gX7_init_X6_init_n25 : GoodIn wsX7_init (wsX6_init) := ggX7_init_X6_init
set_option maxRecDepth 20000 in
theorem ggX7_init_X4_init : GoodIn wsX7_init wsX4_init := goodIn_r _ [48, 49, 2, 3, 4, 50, 51, 78, 79, 80, 81] (by decide +kernel) (by decide +kernel)
set_option maxRecDepth 20000 in
theorem gX7_init_X4_init_n32 : GoodIn wsX7_init (wsX4_init) := ggX7_init_X4_init
set_option maxRecDepth 20000 in
theorem ggX7_init_X1_init : GoodIn wsX7_init wsX1_init := goodIn_r _ [53, 54, 2, 3, 4, 55, 56, 82, 83, 84, 85, 86, 87] (by decide +kernel) (by decide +kernel)
set_option maxRecDepth 20000 in
theorem gX7_init_X1_init_n39 : GoodIn wsX7_init (wsX1_init) := ggX7_init_X1_init
set_option maxRecDepth 20000 in
theorem ggX7_init_X2_init : GoodIn wsX7_init wsX2_init := goodIn_r _ [58, 59, 2, 3, 4, 60, 61, 62, 88, 89, 90, 91] (by decide +kernel) (by decide +kernel)
set_option maxRecDepth 20000 in
theorem gX7_init_X2_init_n46 : GoodIn wsX7_init (wsX2_init) := ggX7_init_X2_init
theorem dX7_init_0 : decode cX7_init 0 = .ok (.aload_n 0, 1) := by decide +kernel
theorem dX7_init_1 : decode cX7_init 1 = .ok (.invokespecial 1, 3) := by decide +kernel
theorem dX7_init_4 : decode cX7_init 4 = .ok (.aload_n 0, 1) := by decide +kernel
theorem dX7_init_5 : decode cX7_init 5 = .ok (.bipush 7, 2) := by decide +kernel
theorem dX7_init_7 : decode cX7_init 7 = .ok (.newarray .int, 2) := by decide +kernel
theorem dX7_init_9 : decode cX7_init 9 = .ok (.dup, 1) := by decide +kernel
theorem dX7_init_10 : decode cX7_init 10 = .ok (.iconst 0, 1) := by decide +kernel
theorem dX7_init_11 : decode cX7_init 11 = .ok (.bipush 60, 2) := by decide +kernel
theorem dX7_init_13 : decode cX7_init 13 = .ok (.iastore, 1) := by decide +kernel
theorem dX7_init_14 : decode cX7_init 14 = .ok (.dup, 1) := by decide +kernel
theorem dX7_init_15 : decode cX7_init 15 = .ok (.iconst 1, 1) := by decide +kernel
theorem dX7_init_16 : decode cX7_init 16 = .ok (.iconst 0, 1) := by decide +kernel
theorem dX7_init_17 : decode cX7_init 17 = .ok (.iastore, 1) := by decide +kernel
theorem dX7_init_18 : decode cX7_init 18 = .ok (.dup, 1) := by decide +kernel
theorem dX7_init_19 : decode cX7_init 19 = .ok (.iconst 2, 1) := by decide +kernel
theorem dX7_init_20 : decode cX7_init 20 = .ok (.iconst 3, 1) := by decide +kernel
theorem dX7_init_21 : decode cX7_init 21 = .ok (.iastore, 1) := by decide +kernel
theorem dX7_init_22 : decode cX7_init 22 = .ok (.dup, 1) := by decide +kernel
theorem dX7_init_23 : decode cX7_init 23 = .ok (.iconst 3, 1) := by decide +kernel
theorem dX7_init_24 : decode cX7_init 24 = .ok (.bipush 100, 2) := by decide +kernel
theorem dX7_init_26 : decode cX7_init 26 = .ok (.iastore, 1) := by decide +kernel
theorem dX7_init_27 : decode cX7_init 27 = .ok (.dup, 1) := by decide +kernel
theorem dX7_init_28 : decode cX7_init 28 = .ok (.iconst 4, 1) := by decide +kernel
theorem dX7_init_29 : decode cX7_init 29 = .ok (.iconst 1, 1) := by decide +kernel
theorem dX7_init_30 : decode cX7_init 30 = .ok (.iastore, 1) := by decide +kernel
theorem dX7_init_31 : decode cX7_init 31 = .ok (.dup, 1) := by decide +kernel
theorem dX7_init_32 : decode cX7_init 32 = .ok (.iconst 5, 1) := by decide +kernel
theorem dX7_init_33 : decode cX7_init 33 = .ok (.iconst 1, 1) := by decide +kernel
theorem dX7_init_34 : decode cX7_init 34 = .ok (.iastore, 1) := by decide +kernel
theorem dX7_init_35 : decode cX7_init 35 = .ok (.dup, 1) := by decide +kernel
theorem dX7_init_36 : decode cX7_init 36 = .ok (.bipush 6, 2) := by decide +kernel
theorem dX7_init_38 : decode cX7_init 38 = .ok (.iconst 1, 1) := by decide +kernel
theorem dX7_init_39 : decode cX7_init 39 = .ok (.iastore, 1) := by decide +kernel
theorem dX7_init_40 : decode cX7_init 40 = .ok (.putfield 7, 3) := by decide +kernel
theorem dX7_init_43 : decode cX7_init 43 = .ok (.aload_n 0, 1) := by decide +kernel
theorem dX7_init_44 : decode cX7_init 44 = .ok (.new 13, 3) := by decide +kernel
theorem dX7_init_47 : decode cX7_init 47 = .ok (.dup, 1) := by decide +kernel
theorem dX7_init_48 : decode cX7_init 48 = .ok (.invokespecial 15, 3) := by decide +kernel
theorem dX7_init_51 : decode cX7_init 51 = .ok (.putfield 16, 3) := by decide +kernel
theorem dX7_init_54 : decode cX7_init 54 = .ok (.aload_n 0, 1) := by decide +kernel
theorem dX7_init_55 : decode cX7_init 55 = .ok (.new 13, 3) := by decide +kernel
theorem dX7_init_58 : decode cX7_init 58 = .ok (.dup, 1) := by decide +kernel
theorem dX7_init_59 : decode cX7_init 59 = .ok (.invokespecial 15, 3) := by decide +kernel
theorem dX7_init_62 : decode cX7_init 62 = .ok (.putfield 20, 3) := by decide +kernel
theorem dX7_init_65 : decode cX7_init 65 = .ok (.aload_n 0, 1) := by decide +kernel
theorem dX7_init_66 : decode cX7_init 66 = .ok (.new 23, 3) := by decide +kernel
theorem dX7_init_69 : decode cX7_init 69 = .ok (.dup, 1) := by decide +kernel
theorem dX7_init_70 : decode cX7_init 70 = .ok (.invokespecial 25, 3) := by decide +kernel
theorem dX7_init_73 : decode cX7_init 73 = .ok (.putfield 26, 3) := by decide +kernel
theorem dX7_init_76 : decode cX7_init 76 = .ok (.aload_n 0, 1) := by decide +kernel
theorem dX7_init_77 : decode cX7_init 77 = .ok (.new 30, 3) := by decide +kernel
theorem dX7_init_80 : decode cX7_init 80 = .ok (.dup, 1) := by decide +kernel
