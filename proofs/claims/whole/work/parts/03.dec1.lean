theorem dX7_init_81 : decode cX7_init 81 = .ok (.invokespecial 32, 3) := by decide +kernel
theorem dX7_init_84 : decode cX7_init 84 = .ok (.putfield 33, 3) := by decide +kernel
theorem dX7_init_87 : decode cX7_init 87 = .ok (.aload_n 0, 1) := by decide +kernel
theorem dX7_init_88 : decode cX7_init 88 = .ok (.new 37, 3) := by decide +kernel
theorem dX7_init_91 : decode cX7_init 91 = .ok (.dup, 1) := by decide +kernel
theorem dX7_init_92 : decode cX7_init 92 = .ok (.invokespecial 39, 3) := by decide +kernel
theorem dX7_init_95 : decode cX7_init 95 = .ok (.putfield 40, 3) := by decide +kernel
theorem dX7_init_98 : decode cX7_init 98 = .ok (.aload_n 0, 1) := by decide +kernel
theorem dX7_init_99 : decode cX7_init 99 = .ok (.new 44, 3) := by decide +kernel
theorem dX7_init_102 : decode cX7_init 102 = .ok (.dup, 1) := by decide +kernel
theorem dX7_init_103 : decode cX7_init 103 = .ok (.invokespecial 46, 3) := by decide +kernel
theorem dX7_init_106 : decode cX7_init 106 = .ok (.putfield 47, 3) := by decide +kernel
theorem dX7_init_109 : decode cX7_init 109 = .ok (.aload_n 0, 1) := by decide +kernel
theorem dX7_init_110 : decode cX7_init 110 = .ok (.iconst 5, 1) := by decide +kernel
theorem dX7_init_111 : decode cX7_init 111 = .ok (.newarray .int, 2) := by decide +kernel
theorem dX7_init_113 : decode cX7_init 113 = .ok (.putfield 51, 3) := by decide +kernel
theorem dX7_init_116 : decode cX7_init 116 = .ok (.return_, 1) := by decide +kernel
set_option maxRecDepth 20000 in
theorem ggX7_team_X7_teams : GoodIn wsX7_team wsX7_teams := goodIn_r _ [10, 2, 11, 12, 13, 14, 15, 16, 86, 87, 88, 89, 90, 91, 92, 93, 94, 95, 110, 111, 112] (by decide +kernel) (by decide +kernel)
set_option maxRecDepth 20000 in
theorem gX7_team_X7_teams : GoodIn wsX7_team (wsV RX7 58 RX7 yX7_teams wsX7_teams) := goodIn_app (goodIn_of _ (by decide +kernel)) ggX7_team_X7_teams
set_option maxRecDepth 20000 in
theorem ggX7_team_X5_init : GoodIn wsX7_team wsX5_init := goodIn_r _ [18, 19, 20, 21, 22, 23, 24, 25, 26, 27, 28, 29, 30, 31, 96, 97, 98, 99, 100, 101, 102, 103, 104, 105, 106, 107, 108, 109] (by decide +kernel) (by decide +kernel)
set_option maxRecDepth 20000 in
theorem gX7_team_X5_init_n64 : GoodIn wsX7_team (wsX5_init) := ggX7_team_X5_init
set_option maxRecDepth 20000 in
theorem ggX7_team_Jx4a65c_add_9ea2d : GoodIn wsX7_team wsJx4a65c_add_9ea2d := goodIn_r _ [35, 36, 37, 38, 16, 39, 40, 41, 14, 42, 43, 44, 45, 46, 47, 48, 49, 50, 51, 52, 53, 54, 55, 56, 57, 58, 59, 60, 61, 62, 63, 64, 65, 66, 67, 68, 69, 70, 71, 72, 73, 74, 75, 76, 77, 78, 79, 80, 81, 82, 83, 84, 85, 110, 111, 112] (by decide +kernel) (by decide +kernel)
set_option maxRecDepth 20000 in
theorem gX7_team_Jx4a65c_add_9ea2d : GoodIn wsX7_team (wsV RX7 67 RJx4a65c yJx4a65c_add_9ea2d wsJx4a65c_add_9ea2d) := goodIn_app (goodIn_of _ (by decide +kernel)) ggX7_team_Jx4a65c_add_9ea2d
theorem dX7_team_0 : decode cX7_team 0 = .ok (.aload_n 0, 1) := by decide +kernel
theorem dX7_team_1 : decode cX7_team 1 = .ok (.getfield 54, 3) := by decide +kernel
theorem dX7_team_4 : decode cX7_team 4 = .ok (.ifCond .le 6, 3) := by decide +kernel
theorem dX7_team_7 : decode cX7_team 7 = .ok (.bipush (-3), 2) := by decide +kernel
theorem dX7_team_9 : decode cX7_team 9 = .ok (.ireturn, 1) := by decide +kernel
theorem dX7_team_10 : decode cX7_team 10 = .ok (.aload_n 0, 1) := by decide +kernel
theorem dX7_team_11 : decode cX7_team 11 = .ok (.invokevirtual 58, 3) := by decide +kernel
theorem dX7_team_14 : decode cX7_team 14 = .ok (.istore_n 1, 1) := by decide +kernel
theorem dX7_team_15 : decode cX7_team 15 = .ok (.iload_n 1, 1) := by decide +kernel
theorem dX7_team_16 : decode cX7_team 16 = .ok (.iconst 5, 1) := by decide +kernel
theorem dX7_team_17 : decode cX7_team 17 = .ok (.if_icmp .lt 6, 3) := by decide +kernel
theorem dX7_team_20 : decode cX7_team 20 = .ok (.bipush (-4), 2) := by decide +kernel
theorem dX7_team_22 : decode cX7_team 22 = .ok (.ireturn, 1) := by decide +kernel
theorem dX7_team_23 : decode cX7_team 23 = .ok (.iconst 0, 1) := by decide +kernel
theorem dX7_team_24 : decode cX7_team 24 = .ok (.istore_n 2, 1) := by decide +kernel
theorem dX7_team_25 : decode cX7_team 25 = .ok (.iload_n 2, 1) := by decide +kernel
theorem dX7_team_26 : decode cX7_team 26 = .ok (.iconst 3, 1) := by decide +kernel
theorem dX7_team_27 : decode cX7_team 27 = .ok (.if_icmp .ge 26, 3) := by decide +kernel
theorem dX7_team_30 : decode cX7_team 30 = .ok (.aload_n 0, 1) := by decide +kernel
theorem dX7_team_31 : decode cX7_team 31 = .ok (.getfield 16, 3) := by decide +kernel
theorem dX7_team_34 : decode cX7_team 34 = .ok (.new 62, 3) := by decide +kernel
theorem dX7_team_37 : decode cX7_team 37 = .ok (.dup, 1) := by decide +kernel
theorem dX7_team_38 : decode cX7_team 38 = .ok (.iload_n 1, 1) := by decide +kernel
theorem dX7_team_39 : decode cX7_team 39 = .ok (.iload_n 2, 1) := by decide +kernel
theorem dX7_team_40 : decode cX7_team 40 = .ok (.invokespecial 64, 3) := by decide +kernel
theorem dX7_team_43 : decode cX7_team 43 = .ok (.invokevirtual 67, 3) := by decide +kernel
theorem dX7_team_46 : decode cX7_team 46 = .ok (.pop, 1) := by decide +kernel
theorem dX7_team_47 : decode cX7_team 47 = .ok (.iinc 2 1, 3) := by decide +kernel
theorem dX7_team_50 : decode cX7_team 50 = .ok (.goto (-25), 3) := by decide +kernel
theorem dX7_team_53 : decode cX7_team 53 = .ok (.iload_n 1, 1) := by decide +kernel
theorem dX7_team_54 : decode cX7_team 54 = .ok (.ireturn, 1) := by decide +kernel
set_option maxRecDepth 20000 in
theorem ggX7_feed_X6_append : GoodIn wsX7_feed wsX6_append := goodIn_r _ [5, 6, 7, 8, 19, 20] (by decide +kernel) (by decide +kernel)
set_option maxRecDepth 20000 in
theorem gX7_feed_X6_append_n74 : GoodIn wsX7_feed (wsX6_append) := ggX7_feed_X6_append
theorem dX7_feed_0 : decode cX7_feed 0 = .ok (.iload_n 3, 1) := by decide +kernel
theorem dX7_feed_1 : decode cX7_feed 1 = .ok (.iconst 1, 1) := by decide +kernel
theorem dX7_feed_2 : decode cX7_feed 2 = .ok (.if_icmp .lt 9, 3) := by decide +kernel
theorem dX7_feed_5 : decode cX7_feed 5 = .ok (.iload_n 3, 1) := by decide +kernel
theorem dX7_feed_6 : decode cX7_feed 6 = .ok (.bipush 8, 2) := by decide +kernel
theorem dX7_feed_8 : decode cX7_feed 8 = .ok (.if_icmp .le 6, 3) := by decide +kernel
theorem dX7_feed_11 : decode cX7_feed 11 = .ok (.bipush (-2), 2) := by decide +kernel
theorem dX7_feed_13 : decode cX7_feed 13 = .ok (.ireturn, 1) := by decide +kernel
theorem dX7_feed_14 : decode cX7_feed 14 = .ok (.aload_n 0, 1) := by decide +kernel
theorem dX7_feed_15 : decode cX7_feed 15 = .ok (.getfield 26, 3) := by decide +kernel
theorem dX7_feed_18 : decode cX7_feed 18 = .ok (.getfield 71, 3) := by decide +kernel
theorem dX7_feed_21 : decode cX7_feed 21 = .ok (.iload_n 3, 1) := by decide +kernel
theorem dX7_feed_22 : decode cX7_feed 22 = .ok (.iadd, 1) := by decide +kernel
theorem dX7_feed_23 : decode cX7_feed 23 = .ok (.bipush 120, 2) := by decide +kernel
theorem dX7_feed_25 : decode cX7_feed 25 = .ok (.if_icmp .le 6, 3) := by decide +kernel
theorem dX7_feed_28 : decode cX7_feed 28 = .ok (.bipush (-4), 2) := by decide +kernel
theorem dX7_feed_30 : decode cX7_feed 30 = .ok (.ireturn, 1) := by decide +kernel
theorem dX7_feed_31 : decode cX7_feed 31 = .ok (.aload_n 0, 1) := by decide +kernel
theorem dX7_feed_32 : decode cX7_feed 32 = .ok (.getfield 26, 3) := by decide +kernel
theorem dX7_feed_35 : decode cX7_feed 35 = .ok (.lload_n 1, 1) := by decide +kernel
theorem dX7_feed_36 : decode cX7_feed 36 = .ok (.iload_n 3, 1) := by decide +kernel
theorem dX7_feed_37 : decode cX7_feed 37 = .ok (.invokevirtual 74, 3) := by decide +kernel
theorem dX7_feed_40 : decode cX7_feed 40 = .ok (.aload_n 0, 1) := by decide +kernel
theorem dX7_feed_41 : decode cX7_feed 41 = .ok (.getfield 26, 3) := by decide +kernel
theorem dX7_feed_44 : decode cX7_feed 44 = .ok (.getfield 71, 3) := by decide +kernel
theorem dX7_feed_47 : decode cX7_feed 47 = .ok (.ireturn, 1) := by decide +kernel
set_option maxRecDepth 20000 in
theorem ggX7_patch_X7_find : GoodIn wsX7_patch wsX7_find := goodIn_r _ [7, 8, 9, 10, 11, 12, 6, 13, 14, 15, 16, 17, 18, 19, 20, 21, 22, 23, 24, 25, 26, 27, 28, 29, 30, 31, 32, 33, 34, 35, 36, 37, 38, 39, 40, 93, 94, 95, 96, 97, 98, 99, 100, 101, 102, 122, 123, 124] (by decide +kernel) (by decide +kernel)
set_option maxRecDepth 20000 in
theorem gX7_patch_X7_find : GoodIn wsX7_patch (wsV RX7 78 RX7 yX7_find wsX7_find) := goodIn_app (goodIn_of _ (by decide +kernel)) ggX7_patch_X7_find
set_option maxRecDepth 20000 in
theorem ggX7_patch_X4_read : GoodIn wsX7_patch wsX4_read := goodIn_r _ [44, 45, 46, 47, 48, 49, 42, 50, 51, 52, 53, 54, 55, 56, 57, 58, 59, 60, 61, 62, 63, 64, 65, 66, 67, 68, 69, 70, 71, 72, 73, 125, 126, 127, 128, 103, 104] (by decide +kernel) (by decide +kernel)
set_option maxRecDepth 20000 in
theorem gX7_patch_X4_read_n82 : GoodIn wsX7_patch (wsX4_read) := ggX7_patch_X4_read
set_option maxRecDepth 20000 in
theorem ggX7_patch_X4_program : GoodIn wsX7_patch wsX4_program := goodIn_r _ [76, 77, 78, 79, 51, 52, 46, 80, 81, 82, 83, 84, 85, 86, 87, 88, 89, 90, 91, 92, 119, 120, 121, 125, 126, 127, 128] (by decide +kernel) (by decide +kernel)
set_option maxRecDepth 20000 in
theorem gX7_patch_X4_program_n86 : GoodIn wsX7_patch (wsX4_program) := ggX7_patch_X4_program
theorem dX7_patch_0 : decode cX7_patch 0 = .ok (.aload_n 0, 1) := by decide +kernel
theorem dX7_patch_1 : decode cX7_patch 1 = .ok (.iload_n 1, 1) := by decide +kernel
theorem dX7_patch_2 : decode cX7_patch 2 = .ok (.iload_n 2, 1) := by decide +kernel
theorem dX7_patch_3 : decode cX7_patch 3 = .ok (.invokevirtual 78, 3) := by decide +kernel
theorem dX7_patch_6 : decode cX7_patch 6 = .ok (.astore_n 3, 1) := by decide +kernel
theorem dX7_patch_7 : decode cX7_patch 7 = .ok (.aload_n 3, 1) := by decide +kernel
theorem dX7_patch_8 : decode cX7_patch 8 = .ok (.ifnonnull 5, 3) := by decide +kernel
theorem dX7_patch_11 : decode cX7_patch 11 = .ok (.iconst (-1), 1) := by decide +kernel
theorem dX7_patch_12 : decode cX7_patch 12 = .ok (.ireturn, 1) := by decide +kernel
theorem dX7_patch_13 : decode cX7_patch 13 = .ok (.aload_n 0, 1) := by decide +kernel
theorem dX7_patch_14 : decode cX7_patch 14 = .ok (.getfield 33, 3) := by decide +kernel
theorem dX7_patch_17 : decode cX7_patch 17 = .ok (.aload_n 0, 1) := by decide +kernel
theorem dX7_patch_18 : decode cX7_patch 18 = .ok (.getfield 26, 3) := by decide +kernel
theorem dX7_patch_21 : decode cX7_patch 21 = .ok (.invokevirtual 82, 3) := by decide +kernel
theorem dX7_patch_24 : decode cX7_patch 24 = .ok (.istore 4, 2) := by decide +kernel
theorem dX7_patch_26 : decode cX7_patch 26 = .ok (.aload_n 0, 1) := by decide +kernel
theorem dX7_patch_27 : decode cX7_patch 27 = .ok (.getfield 26, 3) := by decide +kernel
theorem dX7_patch_30 : decode cX7_patch 30 = .ok (.iconst 0, 1) := by decide +kernel
theorem dX7_patch_31 : decode cX7_patch 31 = .ok (.putfield 71, 3) := by decide +kernel
theorem dX7_patch_34 : decode cX7_patch 34 = .ok (.iload 4, 2) := by decide +kernel
theorem dX7_patch_36 : decode cX7_patch 36 = .ok (.iconst (-1), 1) := by decide +kernel
theorem dX7_patch_37 : decode cX7_patch 37 = .ok (.if_icmp .eq 9, 3) := by decide +kernel
theorem dX7_patch_40 : decode cX7_patch 40 = .ok (.bipush (-10), 2) := by decide +kernel
theorem dX7_patch_42 : decode cX7_patch 42 = .ok (.iload 4, 2) := by decide +kernel
theorem dX7_patch_44 : decode cX7_patch 44 = .ok (.isub, 1) := by decide +kernel
theorem dX7_patch_45 : decode cX7_patch 45 = .ok (.ireturn, 1) := by decide +kernel
theorem dX7_patch_46 : decode cX7_patch 46 = .ok (.aload_n 0, 1) := by decide +kernel
theorem dX7_patch_47 : decode cX7_patch 47 = .ok (.getfield 33, 3) := by decide +kernel
theorem dX7_patch_50 : decode cX7_patch 50 = .ok (.invokevirtual 86, 3) := by decide +kernel
theorem dX7_patch_53 : decode cX7_patch 53 = .ok (.astore 5, 2) := by decide +kernel
theorem dX7_patch_55 : decode cX7_patch 55 = .ok (.aload_n 3, 1) := by decide +kernel
theorem dX7_patch_56 : decode cX7_patch 56 = .ok (.aload 5, 2) := by decide +kernel
theorem dX7_patch_58 : decode cX7_patch 58 = .ok (.putfield 90, 3) := by decide +kernel
theorem dX7_patch_61 : decode cX7_patch 61 = .ok (.aload 5, 2) := by decide +kernel
theorem dX7_patch_63 : decode cX7_patch 63 = .ok (.getfield 94, 3) := by decide +kernel
theorem dX7_patch_66 : decode cX7_patch 66 = .ok (.ireturn, 1) := by decide +kernel
set_option maxRecDepth 20000 in
theorem ggX7_unpatch_X7_find : GoodIn wsX7_unpatch wsX7_find := goodIn_r _ [5, 6, 7, 8, 9, 10, 4, 11, 12, 13, 14, 15, 16, 17, 18, 19, 20, 21, 22, 23, 24, 25, 26, 27, 28, 29, 30, 31, 32, 33, 34, 35, 36, 37, 38, 56, 57, 58, 59, 60, 61, 62, 63, 64, 65, 66, 67, 68] (by decide +kernel) (by decide +kernel)
set_option maxRecDepth 20000 in
theorem gX7_unpatch_X7_find : GoodIn wsX7_unpatch (wsV RX7 78 RX7 yX7_find wsX7_find) := goodIn_app (goodIn_of _ (by decide +kernel)) ggX7_unpatch_X7_find
theorem dX7_unpatch_0 : decode cX7_unpatch 0 = .ok (.aload_n 0, 1) := by decide +kernel
theorem dX7_unpatch_1 : decode cX7_unpatch 1 = .ok (.iload_n 1, 1) := by decide +kernel
theorem dX7_unpatch_2 : decode cX7_unpatch 2 = .ok (.iload_n 2, 1) := by decide +kernel
theorem dX7_unpatch_3 : decode cX7_unpatch 3 = .ok (.invokevirtual 78, 3) := by decide +kernel
theorem dX7_unpatch_6 : decode cX7_unpatch 6 = .ok (.astore_n 3, 1) := by decide +kernel
theorem dX7_unpatch_7 : decode cX7_unpatch 7 = .ok (.aload_n 3, 1) := by decide +kernel
theorem dX7_unpatch_8 : decode cX7_unpatch 8 = .ok (.ifnonnull 5, 3) := by decide +kernel
theorem dX7_unpatch_11 : decode cX7_unpatch 11 = .ok (.iconst (-1), 1) := by decide +kernel
theorem dX7_unpatch_12 : decode cX7_unpatch 12 = .ok (.ireturn, 1) := by decide +kernel
theorem dX7_unpatch_13 : decode cX7_unpatch 13 = .ok (.aload_n 3, 1) := by decide +kernel
theorem dX7_unpatch_14 : decode cX7_unpatch 14 = .ok (.getfield 90, 3) := by decide +kernel
theorem dX7_unpatch_17 : decode cX7_unpatch 17 = .ok (.astore 4, 2) := by decide +kernel
theorem dX7_unpatch_19 : decode cX7_unpatch 19 = .ok (.aload 4, 2) := by decide +kernel
theorem dX7_unpatch_21 : decode cX7_unpatch 21 = .ok (.ifnonnull 6, 3) := by decide +kernel
theorem dX7_unpatch_24 : decode cX7_unpatch 24 = .ok (.bipush (-3), 2) := by decide +kernel
theorem dX7_unpatch_26 : decode cX7_unpatch 26 = .ok (.ireturn, 1) := by decide +kernel
theorem dX7_unpatch_27 : decode cX7_unpatch 27 = .ok (.aload_n 3, 1) := by decide +kernel
theorem dX7_unpatch_28 : decode cX7_unpatch 28 = .ok (.aconst_null, 1) := by decide +kernel
theorem dX7_unpatch_29 : decode cX7_unpatch 29 = .ok (.putfield 90, 3) := by decide +kernel
theorem dX7_unpatch_32 : decode cX7_unpatch 32 = .ok (.aload 4, 2) := by decide +kernel
theorem dX7_unpatch_34 : decode cX7_unpatch 34 = .ok (.getfield 94, 3) := by decide +kernel
theorem dX7_unpatch_37 : decode cX7_unpatch 37 = .ok (.ireturn, 1) := by decide +kernel
set_option maxRecDepth 20000 in
theorem ggX7_cell_X7_find : GoodIn wsX7_cell wsX7_find := goodIn_r _ [5, 6, 7, 8, 9, 10, 4, 11, 12, 13, 14, 15, 16, 17, 18, 19, 20, 21, 22, 23, 24, 25, 26, 27, 28, 29, 30, 31, 32, 33, 34, 35, 36, 37, 38, 53, 54, 55, 56, 57, 58, 59, 60, 61, 62, 63, 64, 65] (by decide +kernel) (by decide +kernel)
set_option maxRecDepth 20000 in
theorem gX7_cell_X7_find : GoodIn wsX7_cell (wsV RX7 78 RX7 yX7_find wsX7_find) := goodIn_app (goodIn_of _ (by decide +kernel)) ggX7_cell_X7_find
theorem dX7_cell_0 : decode cX7_cell 0 = .ok (.aload_n 0, 1) := by decide +kernel
theorem dX7_cell_1 : decode cX7_cell 1 = .ok (.iload_n 1, 1) := by decide +kernel
theorem dX7_cell_2 : decode cX7_cell 2 = .ok (.iload_n 2, 1) := by decide +kernel
theorem dX7_cell_3 : decode cX7_cell 3 = .ok (.invokevirtual 78, 3) := by decide +kernel
theorem dX7_cell_6 : decode cX7_cell 6 = .ok (.astore 4, 2) := by decide +kernel
theorem dX7_cell_8 : decode cX7_cell 8 = .ok (.aload 4, 2) := by decide +kernel
theorem dX7_cell_10 : decode cX7_cell 10 = .ok (.ifnull 13, 3) := by decide +kernel
theorem dX7_cell_13 : decode cX7_cell 13 = .ok (.iload_n 3, 1) := by decide +kernel
theorem dX7_cell_14 : decode cX7_cell 14 = .ok (.ifCond .lt 9, 3) := by decide +kernel
theorem dX7_cell_17 : decode cX7_cell 17 = .ok (.iload_n 3, 1) := by decide +kernel
theorem dX7_cell_18 : decode cX7_cell 18 = .ok (.bipush 8, 2) := by decide +kernel
theorem dX7_cell_20 : decode cX7_cell 20 = .ok (.if_icmp .lt 5, 3) := by decide +kernel
theorem dX7_cell_23 : decode cX7_cell 23 = .ok (.iconst (-1), 1) := by decide +kernel
theorem dX7_cell_24 : decode cX7_cell 24 = .ok (.ireturn, 1) := by decide +kernel
theorem dX7_cell_25 : decode cX7_cell 25 = .ok (.aload 4, 2) := by decide +kernel
theorem dX7_cell_27 : decode cX7_cell 27 = .ok (.getfield 97, 3) := by decide +kernel
theorem dX7_cell_30 : decode cX7_cell 30 = .ok (.iload_n 3, 1) := by decide +kernel
theorem dX7_cell_31 : decode cX7_cell 31 = .ok (.iaload, 1) := by decide +kernel
theorem dX7_cell_32 : decode cX7_cell 32 = .ok (.ireturn, 1) := by decide +kernel
set_option maxRecDepth 20000 in
theorem ggX7_about_X7_find : GoodIn wsX7_about wsX7_find := goodIn_r _ [6, 7, 8, 9, 10, 11, 5, 12, 13, 14, 15, 16, 17, 18, 19, 20, 21, 22, 23, 24, 25, 26, 27, 28, 29, 30, 31, 32, 33, 34, 35, 36, 37, 38, 39, 57, 58, 59, 60, 61, 62, 63, 64, 65, 66, 67, 68, 69] (by decide +kernel) (by decide +kernel)
set_option maxRecDepth 20000 in
theorem gX7_about_X7_find : GoodIn wsX7_about (wsV RX7 78 RX7 yX7_find wsX7_find) := goodIn_app (goodIn_of _ (by decide +kernel)) ggX7_about_X7_find
theorem dX7_about_0 : decode cX7_about 0 = .ok (.aload_n 0, 1) := by decide +kernel
theorem dX7_about_1 : decode cX7_about 1 = .ok (.iload_n 1, 1) := by decide +kernel
theorem dX7_about_2 : decode cX7_about 2 = .ok (.iload_n 2, 1) := by decide +kernel
theorem dX7_about_3 : decode cX7_about 3 = .ok (.invokevirtual 78, 3) := by decide +kernel
theorem dX7_about_6 : decode cX7_about 6 = .ok (.astore 4, 2) := by decide +kernel
theorem dX7_about_8 : decode cX7_about 8 = .ok (.aload 4, 2) := by decide +kernel
theorem dX7_about_10 : decode cX7_about 10 = .ok (.ifnonnull 5, 3) := by decide +kernel
theorem dX7_about_13 : decode cX7_about 13 = .ok (.iconst (-1), 1) := by decide +kernel
theorem dX7_about_14 : decode cX7_about 14 = .ok (.ireturn, 1) := by decide +kernel
theorem dX7_about_15 : decode cX7_about 15 = .ok (.iload_n 3, 1) := by decide +kernel
theorem dX7_about_16 : decode cX7_about 16 = .ok (.tableswitch 94 0 4 #[36, 57, 71, 82, 88], 36) := by decide +kernel
theorem dX7_about_52 : decode cX7_about 52 = .ok (.aload 4, 2) := by decide +kernel
theorem dX7_about_54 : decode cX7_about 54 = .ok (.getfield 100, 3) := by decide +kernel
theorem dX7_about_57 : decode cX7_about 57 = .ok (.ifnonnull 7, 3) := by decide +kernel
theorem dX7_about_60 : decode cX7_about 60 = .ok (.iconst 0, 1) := by decide +kernel
theorem dX7_about_61 : decode cX7_about 61 = .ok (.goto 11, 3) := by decide +kernel
theorem dX7_about_64 : decode cX7_about 64 = .ok (.aload 4, 2) := by decide +kernel
theorem dX7_about_66 : decode cX7_about 66 = .ok (.getfield 100, 3) := by decide +kernel
theorem dX7_about_69 : decode cX7_about 69 = .ok (.getfield 94, 3) := by decide +kernel
theorem dX7_about_72 : decode cX7_about 72 = .ok (.ireturn, 1) := by decide +kernel
theorem dX7_about_73 : decode cX7_about 73 = .ok (.aload 4, 2) := by decide +kernel
theorem dX7_about_75 : decode cX7_about 75 = .ok (.getfield 90, 3) := by decide +kernel
theorem dX7_about_78 : decode cX7_about 78 = .ok (.ifnonnull 7, 3) := by decide +kernel
theorem dX7_about_81 : decode cX7_about 81 = .ok (.iconst 0, 1) := by decide +kernel
theorem dX7_about_82 : decode cX7_about 82 = .ok (.goto 4, 3) := by decide +kernel
theorem dX7_about_85 : decode cX7_about 85 = .ok (.iconst 1, 1) := by decide +kernel
theorem dX7_about_86 : decode cX7_about 86 = .ok (.ireturn, 1) := by decide +kernel
theorem dX7_about_87 : decode cX7_about 87 = .ok (.aload 4, 2) := by decide +kernel
theorem dX7_about_89 : decode cX7_about 89 = .ok (.getfield 102, 3) := by decide +kernel
theorem dX7_about_92 : decode cX7_about 92 = .ok (.aload_n 0, 1) := by decide +kernel
theorem dX7_about_93 : decode cX7_about 93 = .ok (.getfield 54, 3) := by decide +kernel
theorem dX7_about_96 : decode cX7_about 96 = .ok (.iaload, 1) := by decide +kernel
theorem dX7_about_97 : decode cX7_about 97 = .ok (.ireturn, 1) := by decide +kernel
theorem dX7_about_98 : decode cX7_about 98 = .ok (.aload 4, 2) := by decide +kernel
theorem dX7_about_100 : decode cX7_about 100 = .ok (.getfield 105, 3) := by decide +kernel
theorem dX7_about_103 : decode cX7_about 103 = .ok (.ireturn, 1) := by decide +kernel
theorem dX7_about_104 : decode cX7_about 104 = .ok (.aload 4, 2) := by decide +kernel
theorem dX7_about_106 : decode cX7_about 106 = .ok (.getfield 108, 3) := by decide +kernel
theorem dX7_about_109 : decode cX7_about 109 = .ok (.ireturn, 1) := by decide +kernel
theorem dX7_about_110 : decode cX7_about 110 = .ok (.iconst (-1), 1) := by decide +kernel
theorem dX7_about_111 : decode cX7_about 111 = .ok (.ireturn, 1) := by decide +kernel
theorem dX7_set_0 : decode cX7_set 0 = .ok (.iload_n 1, 1) := by decide +kernel
theorem dX7_set_1 : decode cX7_set 1 = .ok (.ifCond .lt 9, 3) := by decide +kernel
theorem dX7_set_4 : decode cX7_set 4 = .ok (.iload_n 1, 1) := by decide +kernel
theorem dX7_set_5 : decode cX7_set 5 = .ok (.bipush 7, 2) := by decide +kernel
theorem dX7_set_7 : decode cX7_set 7 = .ok (.if_icmp .lt 5, 3) := by decide +kernel
theorem dX7_set_10 : decode cX7_set 10 = .ok (.iconst (-1), 1) := by decide +kernel
theorem dX7_set_11 : decode cX7_set 11 = .ok (.ireturn, 1) := by decide +kernel
theorem dX7_set_12 : decode cX7_set 12 = .ok (.iload_n 2, 1) := by decide +kernel
theorem dX7_set_13 : decode cX7_set 13 = .ok (.getstatic 111, 3) := by decide +kernel
theorem dX7_set_16 : decode cX7_set 16 = .ok (.iload_n 1, 1) := by decide +kernel
theorem dX7_set_17 : decode cX7_set 17 = .ok (.iaload, 1) := by decide +kernel
theorem dX7_set_18 : decode cX7_set 18 = .ok (.if_icmp .lt 12, 3) := by decide +kernel
theorem dX7_set_21 : decode cX7_set 21 = .ok (.iload_n 2, 1) := by decide +kernel
theorem dX7_set_22 : decode cX7_set 22 = .ok (.getstatic 114, 3) := by decide +kernel
theorem dX7_set_25 : decode cX7_set 25 = .ok (.iload_n 1, 1) := by decide +kernel
theorem dX7_set_26 : decode cX7_set 26 = .ok (.iaload, 1) := by decide +kernel
theorem dX7_set_27 : decode cX7_set 27 = .ok (.if_icmp .le 6, 3) := by decide +kernel
theorem dX7_set_30 : decode cX7_set 30 = .ok (.bipush (-2), 2) := by decide +kernel
theorem dX7_set_32 : decode cX7_set 32 = .ok (.ireturn, 1) := by decide +kernel
theorem dX7_set_33 : decode cX7_set 33 = .ok (.aload_n 0, 1) := by decide +kernel
theorem dX7_set_34 : decode cX7_set 34 = .ok (.getfield 54, 3) := by decide +kernel
theorem dX7_set_37 : decode cX7_set 37 = .ok (.ifCond .le 16, 3) := by decide +kernel
theorem dX7_set_40 : decode cX7_set 40 = .ok (.iload_n 1, 1) := by decide +kernel
theorem dX7_set_41 : decode cX7_set 41 = .ok (.iconst 1, 1) := by decide +kernel
theorem dX7_set_42 : decode cX7_set 42 = .ok (.if_icmp .eq 8, 3) := by decide +kernel
theorem dX7_set_45 : decode cX7_set 45 = .ok (.iload_n 1, 1) := by decide +kernel
theorem dX7_set_46 : decode cX7_set 46 = .ok (.iconst 2, 1) := by decide +kernel
theorem dX7_set_47 : decode cX7_set 47 = .ok (.if_icmp .ne 6, 3) := by decide +kernel
theorem dX7_set_50 : decode cX7_set 50 = .ok (.bipush (-3), 2) := by decide +kernel
theorem dX7_set_52 : decode cX7_set 52 = .ok (.ireturn, 1) := by decide +kernel
theorem dX7_set_53 : decode cX7_set 53 = .ok (.aload_n 0, 1) := by decide +kernel
theorem dX7_set_54 : decode cX7_set 54 = .ok (.getfield 7, 3) := by decide +kernel
theorem dX7_set_57 : decode cX7_set 57 = .ok (.iload_n 1, 1) := by decide +kernel
theorem dX7_set_58 : decode cX7_set 58 = .ok (.iaload, 1) := by decide +kernel
theorem dX7_set_59 : decode cX7_set 59 = .ok (.istore_n 3, 1) := by decide +kernel
theorem dX7_set_60 : decode cX7_set 60 = .ok (.aload_n 0, 1) := by decide +kernel
theorem dX7_set_61 : decode cX7_set 61 = .ok (.getfield 7, 3) := by decide +kernel
theorem dX7_set_64 : decode cX7_set 64 = .ok (.iload_n 1, 1) := by decide +kernel
theorem dX7_set_65 : decode cX7_set 65 = .ok (.iload_n 2, 1) := by decide +kernel
theorem dX7_set_66 : decode cX7_set 66 = .ok (.iastore, 1) := by decide +kernel
theorem dX7_set_67 : decode cX7_set 67 = .ok (.iload_n 3, 1) := by decide +kernel
theorem dX7_set_68 : decode cX7_set 68 = .ok (.ireturn, 1) := by decide +kernel
set_option maxRecDepth 20000 in
theorem ggX7_letter_X7_find : GoodIn wsX7_letter wsX7_find := goodIn_r _ [9, 10, 11, 12, 13, 14, 8, 15, 16, 17, 18, 19, 20, 21, 22, 23, 24, 25, 26, 27, 28, 29, 30, 31, 32, 33, 34, 35, 36, 37, 38, 39, 40, 41, 42, 96, 97, 98, 99, 100, 101, 102, 103, 104, 105, 110, 111, 112] (by decide +kernel) (by decide +kernel)
set_option maxRecDepth 20000 in
theorem gX7_letter_X7_find : GoodIn wsX7_letter (wsV RX7 78 RX7 yX7_find wsX7_find) := goodIn_app (goodIn_of _ (by decide +kernel)) ggX7_letter_X7_find
set_option maxRecDepth 20000 in
theorem ggX7_letter_X7_isTeam : GoodIn wsX7_letter wsX7_isTeam := goodIn_r _ [15, 16, 17, 18, 8, 19, 10, 20, 21, 22, 23, 24, 25, 96, 97, 98, 99, 100, 101, 102, 103, 104, 105, 110, 111, 112] (by decide +kernel) (by decide +kernel)
set_option maxRecDepth 20000 in
theorem gX7_letter_X7_isTeam : GoodIn wsX7_letter (wsV RX7 117 RX7 yX7_isTeam wsX7_isTeam) := goodIn_app (goodIn_of _ (by decide +kernel)) ggX7_letter_X7_isTeam
set_option maxRecDepth 20000 in
theorem ggX7_letter_X7_isNumber : GoodIn wsX7_letter wsX7_isNumber := goodIn_r _ [45] (by decide +kernel) (by decide +kernel)
set_option maxRecDepth 20000 in
theorem gX7_letter_X7_isNumber : GoodIn wsX7_letter (va_wsS RX7 121 yX7_isNumber wsX7_isNumber) := goodIn_app (goodIn_of _ (by decide +kernel)) ggX7_letter_X7_isNumber
set_option maxRecDepth 20000 in
theorem ggX7_letter_X2_keep : GoodIn wsX7_letter wsX2_keep := goodIn_r _ [49, 50, 51, 52, 53, 106, 107, 108, 109, 113, 114, 115, 116, 117, 118, 119, 120, 121, 122, 123, 124, 125, 126] (by decide +kernel) (by decide +kernel)
set_option maxRecDepth 20000 in
theorem gX7_letter_X2_keep_n125 : GoodIn wsX7_letter (wsX2_keep) := ggX7_letter_X2_keep
set_option maxRecDepth 20000 in
theorem ggX7_letter_X1_deliver : GoodIn wsX7_letter wsX1_deliver := goodIn_r _ [57, 58, 59, 60, 61, 62, 63, 64, 65, 66, 67, 68, 55, 69, 70, 71, 72, 73, 74, 75, 76, 77, 78, 79, 80, 81, 82, 83, 84, 85, 86, 87, 88, 89, 90, 91, 92, 93, 94, 95, 113, 114, 115, 116, 117, 118, 119, 120, 121, 122, 123, 124, 125, 126, 127, 128, 129, 130, 131, 132, 133, 134, 135] (by decide +kernel) (by decide +kernel)
set_option maxRecDepth 20000 in
theorem gX7_letter_X1_deliver_n132 : GoodIn wsX7_letter (wsX1_deliver) := ggX7_letter_X1_deliver
theorem dX7_letter_0 : decode cX7_letter 0 = .ok (.aload_n 0, 1) := by decide +kernel
theorem dX7_letter_1 : decode cX7_letter 1 = .ok (.iload_n 2, 1) := by decide +kernel
theorem dX7_letter_2 : decode cX7_letter 2 = .ok (.iload_n 3, 1) := by decide +kernel
theorem dX7_letter_3 : decode cX7_letter 3 = .ok (.invokevirtual 78, 3) := by decide +kernel
theorem dX7_letter_6 : decode cX7_letter 6 = .ok (.astore 6, 2) := by decide +kernel
theorem dX7_letter_8 : decode cX7_letter 8 = .ok (.aload_n 0, 1) := by decide +kernel
theorem dX7_letter_9 : decode cX7_letter 9 = .ok (.iload_n 1, 1) := by decide +kernel
theorem dX7_letter_10 : decode cX7_letter 10 = .ok (.invokevirtual 117, 3) := by decide +kernel
theorem dX7_letter_13 : decode cX7_letter 13 = .ok (.ifCond .eq 8, 3) := by decide +kernel
theorem dX7_letter_16 : decode cX7_letter 16 = .ok (.aload 6, 2) := by decide +kernel
theorem dX7_letter_18 : decode cX7_letter 18 = .ok (.ifnonnull 5, 3) := by decide +kernel
theorem dX7_letter_21 : decode cX7_letter 21 = .ok (.iconst (-1), 1) := by decide +kernel
theorem dX7_letter_22 : decode cX7_letter 22 = .ok (.ireturn, 1) := by decide +kernel
theorem dX7_letter_23 : decode cX7_letter 23 = .ok (.iload 4, 2) := by decide +kernel
theorem dX7_letter_25 : decode cX7_letter 25 = .ok (.invokestatic 121, 3) := by decide +kernel
theorem dX7_letter_28 : decode cX7_letter 28 = .ok (.ifCond .eq 11, 3) := by decide +kernel
theorem dX7_letter_31 : decode cX7_letter 31 = .ok (.iload 5, 2) := by decide +kernel
theorem dX7_letter_33 : decode cX7_letter 33 = .ok (.invokestatic 121, 3) := by decide +kernel
theorem dX7_letter_36 : decode cX7_letter 36 = .ok (.ifCond .ne 6, 3) := by decide +kernel
theorem dX7_letter_39 : decode cX7_letter 39 = .ok (.bipush (-2), 2) := by decide +kernel
theorem dX7_letter_41 : decode cX7_letter 41 = .ok (.ireturn, 1) := by decide +kernel
theorem dX7_letter_42 : decode cX7_letter 42 = .ok (.aload_n 0, 1) := by decide +kernel
theorem dX7_letter_43 : decode cX7_letter 43 = .ok (.getfield 47, 3) := by decide +kernel
theorem dX7_letter_46 : decode cX7_letter 46 = .ok (.getfield 124, 3) := by decide +kernel
theorem dX7_letter_49 : decode cX7_letter 49 = .ok (.sipush 400, 3) := by decide +kernel
theorem dX7_letter_52 : decode cX7_letter 52 = .ok (.if_icmp .lt 6, 3) := by decide +kernel
theorem dX7_letter_55 : decode cX7_letter 55 = .ok (.bipush (-4), 2) := by decide +kernel
theorem dX7_letter_57 : decode cX7_letter 57 = .ok (.ireturn, 1) := by decide +kernel
theorem dX7_letter_58 : decode cX7_letter 58 = .ok (.aload_n 0, 1) := by decide +kernel
theorem dX7_letter_59 : decode cX7_letter 59 = .ok (.getfield 47, 3) := by decide +kernel
theorem dX7_letter_62 : decode cX7_letter 62 = .ok (.aload 6, 2) := by decide +kernel
theorem dX7_letter_64 : decode cX7_letter 64 = .ok (.iload 4, 2) := by decide +kernel
theorem dX7_letter_66 : decode cX7_letter 66 = .ok (.iload 5, 2) := by decide +kernel
theorem dX7_letter_68 : decode cX7_letter 68 = .ok (.invokevirtual 125, 3) := by decide +kernel
theorem dX7_letter_71 : decode cX7_letter 71 = .ok (.aload_n 0, 1) := by decide +kernel
theorem dX7_letter_72 : decode cX7_letter 72 = .ok (.dup, 1) := by decide +kernel
theorem dX7_letter_73 : decode cX7_letter 73 = .ok (.getfield 129, 3) := by decide +kernel
theorem dX7_letter_76 : decode cX7_letter 76 = .ok (.iconst 1, 1) := by decide +kernel
theorem dX7_letter_77 : decode cX7_letter 77 = .ok (.iadd, 1) := by decide +kernel
theorem dX7_letter_78 : decode cX7_letter 78 = .ok (.putfield 129, 3) := by decide +kernel
theorem dX7_letter_81 : decode cX7_letter 81 = .ok (.aload_n 0, 1) := by decide +kernel
theorem dX7_letter_82 : decode cX7_letter 82 = .ok (.getfield 40, 3) := by decide +kernel
theorem dX7_letter_85 : decode cX7_letter 85 = .ok (.aload 6, 2) := by decide +kernel
theorem dX7_letter_87 : decode cX7_letter 87 = .ok (.iload 4, 2) := by decide +kernel
theorem dX7_letter_89 : decode cX7_letter 89 = .ok (.iload 5, 2) := by decide +kernel
theorem dX7_letter_91 : decode cX7_letter 91 = .ok (.aload_n 0, 1) := by decide +kernel
theorem dX7_letter_92 : decode cX7_letter 92 = .ok (.getfield 7, 3) := by decide +kernel
theorem dX7_letter_95 : decode cX7_letter 95 = .ok (.iconst 0, 1) := by decide +kernel
theorem dX7_letter_96 : decode cX7_letter 96 = .ok (.iaload, 1) := by decide +kernel
theorem dX7_letter_97 : decode cX7_letter 97 = .ok (.invokevirtual 132, 3) := by decide +kernel
theorem dX7_letter_100 : decode cX7_letter 100 = .ok (.ireturn, 1) := by decide +kernel
set_option maxRecDepth 20000 in
theorem ggX7_round_Jx4a65c_isEmpty_aae02 : GoodIn wsX7_round wsJx4a65c_isEmpty_aae02 := goodIn_r _ [9, 10, 151, 152, 153] (by decide +kernel) (by decide +kernel)
set_option maxRecDepth 20000 in
theorem gX7_round_Jx4a65c_isEmpty_aae02 : GoodIn wsX7_round (wsV RX7 136 RJx4a65c yJx4a65c_isEmpty_aae02 wsJx4a65c_isEmpty_aae02) := goodIn_app (goodIn_of _ (by decide +kernel)) ggX7_round_Jx4a65c_isEmpty_aae02
set_option maxRecDepth 20000 in
theorem ggX7_round_Jx4a65c_size_8abf5 : GoodIn wsX7_round wsJx4a65c_size_8abf5 := goodIn_r _ [14, 10, 151, 152, 153] (by decide +kernel) (by decide +kernel)
set_option maxRecDepth 20000 in
theorem gX7_round_Jx4a65c_size_8abf5 : GoodIn wsX7_round (wsV RX7 140 RJx4a65c yJx4a65c_size_8abf5 wsJx4a65c_size_8abf5) := goodIn_app (goodIn_of _ (by decide +kernel)) ggX7_round_Jx4a65c_size_8abf5
set_option maxRecDepth 20000 in
theorem ggX7_round_Jx4a65c_get_915e3 : GoodIn wsX7_round wsJx4a65c_get_915e3 := goodIn_r _ [18, 10, 19, 20, 21, 22, 23, 24, 25, 26, 27, 28, 29, 8, 30, 31, 151, 152, 153] (by decide +kernel) (by decide +kernel)
set_option maxRecDepth 20000 in
theorem gX7_round_Jx4a65c_get_915e3 : GoodIn wsX7_round (wsV RX7 142 RJx4a65c yJx4a65c_get_915e3 wsJx4a65c_get_915e3) := goodIn_app (goodIn_of _ (by decide +kernel)) ggX7_round_Jx4a65c_get_915e3
set_option maxRecDepth 20000 in
theorem ggX7_round_X5_takePatch : GoodIn wsX7_round wsX5_takePatch := goodIn_r _ [35, 36, 37, 133, 134, 135, 136, 137, 138, 139, 140, 141, 142, 143, 144, 145, 146] (by decide +kernel) (by decide +kernel)
set_option maxRecDepth 20000 in
theorem gX7_round_X5_takePatch_n146 : GoodIn wsX7_round (wsX5_takePatch) := ggX7_round_X5_takePatch
set_option maxRecDepth 20000 in
theorem ggX7_round_X7_writeChecks : GoodIn wsX7_round wsX7_writeChecks := goodIn_r _ [42, 2, 43, 44, 45, 46, 47, 48, 41, 49, 50, 51, 52, 53, 54, 55, 56, 57, 58, 59, 60, 61, 62, 63, 64, 65, 66, 67, 68, 69, 70, 71, 72, 73, 74, 75, 76, 77, 78, 79, 80, 81, 82, 83, 84, 85, 86, 87, 88, 89, 90, 91, 92, 93, 94, 95, 96, 97, 98, 99, 100, 101, 102, 33, 103, 104, 105, 106, 107, 108, 123, 124, 125, 126, 127, 128, 129, 130, 131, 132, 133, 134, 135, 136, 137, 138, 139, 140, 141, 142, 143, 144, 145, 146, 154, 155, 156, 157, 158, 159, 160, 161, 162] (by decide +kernel) (by decide +kernel)
set_option maxRecDepth 20000 in
theorem gX7_round_X7_writeChecks : GoodIn wsX7_round (wsV RX7 149 RX7 yX7_writeChecks wsX7_writeChecks) := goodIn_app (goodIn_of _ (by decide +kernel)) ggX7_round_X7_writeChecks
set_option maxRecDepth 20000 in
theorem ggX7_round_X2_countLikeChecks : GoodIn wsX7_round wsX2_countLikeChecks := goodIn_r _ [112, 113, 114, 115, 116, 117, 118, 12, 13, 8, 14, 10, 119, 16, 17, 18, 19, 20, 21, 22, 23, 24, 25, 26, 27, 28, 29, 30, 31, 120, 33, 121, 122, 105, 106, 147, 148, 149, 150, 133, 134, 135, 136, 137, 138, 139, 140, 141, 142, 143, 144, 145, 146, 151, 152, 153] (by decide +kernel) (by decide +kernel)
set_option maxRecDepth 20000 in
theorem gX7_round_X2_countLikeChecks_n156 : GoodIn wsX7_round (wsX2_countLikeChecks) := ggX7_round_X2_countLikeChecks
theorem dX7_round_0 : decode cX7_round 0 = .ok (.aload_n 0, 1) := by decide +kernel
theorem dX7_round_1 : decode cX7_round 1 = .ok (.getfield 16, 3) := by decide +kernel
theorem dX7_round_4 : decode cX7_round 4 = .ok (.invokevirtual 136, 3) := by decide +kernel
theorem dX7_round_7 : decode cX7_round 7 = .ok (.ifCond .eq 6, 3) := by decide +kernel
theorem dX7_round_10 : decode cX7_round 10 = .ok (.bipush (-3), 2) := by decide +kernel
theorem dX7_round_12 : decode cX7_round 12 = .ok (.ireturn, 1) := by decide +kernel
theorem dX7_round_13 : decode cX7_round 13 = .ok (.aload_n 0, 1) := by decide +kernel
theorem dX7_round_14 : decode cX7_round 14 = .ok (.getfield 54, 3) := by decide +kernel
theorem dX7_round_17 : decode cX7_round 17 = .ok (.bipush 100, 2) := by decide +kernel
theorem dX7_round_19 : decode cX7_round 19 = .ok (.if_icmp .lt 6, 3) := by decide +kernel
theorem dX7_round_22 : decode cX7_round 22 = .ok (.bipush (-4), 2) := by decide +kernel
theorem dX7_round_24 : decode cX7_round 24 = .ok (.ireturn, 1) := by decide +kernel
theorem dX7_round_25 : decode cX7_round 25 = .ok (.iconst 0, 1) := by decide +kernel
theorem dX7_round_26 : decode cX7_round 26 = .ok (.istore_n 1, 1) := by decide +kernel
theorem dX7_round_27 : decode cX7_round 27 = .ok (.iconst 0, 1) := by decide +kernel
theorem dX7_round_28 : decode cX7_round 28 = .ok (.istore_n 2, 1) := by decide +kernel
theorem dX7_round_29 : decode cX7_round 29 = .ok (.iload_n 2, 1) := by decide +kernel
theorem dX7_round_30 : decode cX7_round 30 = .ok (.aload_n 0, 1) := by decide +kernel
theorem dX7_round_31 : decode cX7_round 31 = .ok (.getfield 16, 3) := by decide +kernel
theorem dX7_round_34 : decode cX7_round 34 = .ok (.invokevirtual 140, 3) := by decide +kernel
theorem dX7_round_37 : decode cX7_round 37 = .ok (.if_icmp .ge 73, 3) := by decide +kernel
theorem dX7_round_40 : decode cX7_round 40 = .ok (.aload_n 0, 1) := by decide +kernel
theorem dX7_round_41 : decode cX7_round 41 = .ok (.getfield 16, 3) := by decide +kernel
theorem dX7_round_44 : decode cX7_round 44 = .ok (.iload_n 2, 1) := by decide +kernel
theorem dX7_round_45 : decode cX7_round 45 = .ok (.invokevirtual 142, 3) := by decide +kernel
theorem dX7_round_48 : decode cX7_round 48 = .ok (.checkcast 62, 3) := by decide +kernel
theorem dX7_round_51 : decode cX7_round 51 = .ok (.astore_n 3, 1) := by decide +kernel
theorem dX7_round_52 : decode cX7_round 52 = .ok (.aload_n 3, 1) := by decide +kernel
theorem dX7_round_53 : decode cX7_round 53 = .ok (.invokevirtual 146, 3) := by decide +kernel
theorem dX7_round_56 : decode cX7_round 56 = .ok (.aload_n 0, 1) := by decide +kernel
theorem dX7_round_57 : decode cX7_round 57 = .ok (.aload_n 3, 1) := by decide +kernel
theorem dX7_round_58 : decode cX7_round 58 = .ok (.invokevirtual 149, 3) := by decide +kernel
theorem dX7_round_61 : decode cX7_round 61 = .ok (.ifCond .eq 7, 3) := by decide +kernel
theorem dX7_round_64 : decode cX7_round 64 = .ok (.iconst 1, 1) := by decide +kernel
theorem dX7_round_65 : decode cX7_round 65 = .ok (.goto 4, 3) := by decide +kernel
theorem dX7_round_68 : decode cX7_round 68 = .ok (.iconst 0, 1) := by decide +kernel
theorem dX7_round_69 : decode cX7_round 69 = .ok (.istore 4, 2) := by decide +kernel
theorem dX7_round_71 : decode cX7_round 71 = .ok (.aload_n 3, 1) := by decide +kernel
theorem dX7_round_72 : decode cX7_round 72 = .ok (.getfield 102, 3) := by decide +kernel
theorem dX7_round_75 : decode cX7_round 75 = .ok (.aload_n 0, 1) := by decide +kernel
theorem dX7_round_76 : decode cX7_round 76 = .ok (.getfield 54, 3) := by decide +kernel
theorem dX7_round_79 : decode cX7_round 79 = .ok (.iconst 1, 1) := by decide +kernel
theorem dX7_round_80 : decode cX7_round 80 = .ok (.iadd, 1) := by decide +kernel
theorem dX7_round_81 : decode cX7_round 81 = .ok (.aload_n 3, 1) := by decide +kernel
theorem dX7_round_82 : decode cX7_round 82 = .ok (.getfield 102, 3) := by decide +kernel
theorem dX7_round_85 : decode cX7_round 85 = .ok (.aload_n 0, 1) := by decide +kernel
theorem dX7_round_86 : decode cX7_round 86 = .ok (.getfield 54, 3) := by decide +kernel
theorem dX7_round_89 : decode cX7_round 89 = .ok (.iaload, 1) := by decide +kernel
theorem dX7_round_90 : decode cX7_round 90 = .ok (.iload 4, 2) := by decide +kernel
theorem dX7_round_92 : decode cX7_round 92 = .ok (.iadd, 1) := by decide +kernel
theorem dX7_round_93 : decode cX7_round 93 = .ok (.iastore, 1) := by decide +kernel
theorem dX7_round_94 : decode cX7_round 94 = .ok (.aload_n 3, 1) := by decide +kernel
theorem dX7_round_95 : decode cX7_round 95 = .ok (.iconst 0, 1) := by decide +kernel
theorem dX7_round_96 : decode cX7_round 96 = .ok (.putfield 153, 3) := by decide +kernel
theorem dX7_round_99 : decode cX7_round 99 = .ok (.iload_n 1, 1) := by decide +kernel
theorem dX7_round_100 : decode cX7_round 100 = .ok (.iload 4, 2) := by decide +kernel
theorem dX7_round_102 : decode cX7_round 102 = .ok (.iadd, 1) := by decide +kernel
theorem dX7_round_103 : decode cX7_round 103 = .ok (.istore_n 1, 1) := by decide +kernel
theorem dX7_round_104 : decode cX7_round 104 = .ok (.iinc 2 1, 3) := by decide +kernel
theorem dX7_round_107 : decode cX7_round 107 = .ok (.goto (-78), 3) := by decide +kernel
theorem dX7_round_110 : decode cX7_round 110 = .ok (.aload_n 0, 1) := by decide +kernel
theorem dX7_round_111 : decode cX7_round 111 = .ok (.getfield 47, 3) := by decide +kernel
theorem dX7_round_114 : decode cX7_round 114 = .ok (.aload_n 0, 1) := by decide +kernel
theorem dX7_round_115 : decode cX7_round 115 = .ok (.getfield 16, 3) := by decide +kernel
theorem dX7_round_118 : decode cX7_round 118 = .ok (.invokevirtual 156, 3) := by decide +kernel
theorem dX7_round_121 : decode cX7_round 121 = .ok (.aload_n 0, 1) := by decide +kernel
theorem dX7_round_122 : decode cX7_round 122 = .ok (.getfield 47, 3) := by decide +kernel
theorem dX7_round_125 : decode cX7_round 125 = .ok (.iconst 0, 1) := by decide +kernel
theorem dX7_round_126 : decode cX7_round 126 = .ok (.putfield 124, 3) := by decide +kernel
theorem dX7_round_129 : decode cX7_round 129 = .ok (.aload_n 0, 1) := by decide +kernel
theorem dX7_round_130 : decode cX7_round 130 = .ok (.dup, 1) := by decide +kernel
theorem dX7_round_131 : decode cX7_round 131 = .ok (.getfield 54, 3) := by decide +kernel
theorem dX7_round_134 : decode cX7_round 134 = .ok (.iconst 1, 1) := by decide +kernel
theorem dX7_round_135 : decode cX7_round 135 = .ok (.iadd, 1) := by decide +kernel
theorem dX7_round_136 : decode cX7_round 136 = .ok (.putfield 54, 3) := by decide +kernel
theorem dX7_round_139 : decode cX7_round 139 = .ok (.iload_n 1, 1) := by decide +kernel
theorem dX7_round_140 : decode cX7_round 140 = .ok (.ireturn, 1) := by decide +kernel
set_option maxRecDepth 20000 in
theorem ggX7_up_X7_find : GoodIn wsX7_up wsX7_find := goodIn_r _ [5, 6, 7, 8, 9, 10, 4, 11, 12, 13, 14, 15, 16, 17, 18, 19, 20, 21, 22, 23, 24, 25, 26, 27, 28, 29, 30, 31, 32, 33, 34, 35, 36, 37, 38, 58, 59, 60, 61, 62, 63, 64, 65, 66, 67, 68, 69, 70] (by decide +kernel) (by decide +kernel)
set_option maxRecDepth 20000 in
theorem gX7_up_X7_find : GoodIn wsX7_up (wsV RX7 78 RX7 yX7_find wsX7_find) := goodIn_app (goodIn_of _ (by decide +kernel)) ggX7_up_X7_find
set_option maxRecDepth 20000 in
theorem ggX7_up_X7_wasRound : GoodIn wsX7_up wsX7_wasRound := goodIn_r _ [42, 43, 58, 59, 60, 61, 62, 63, 64, 65, 66, 67] (by decide +kernel) (by decide +kernel)
set_option maxRecDepth 20000 in
theorem gX7_up_X7_wasRound : GoodIn wsX7_up (wsV RX7 160 RX7 yX7_wasRound wsX7_wasRound) := goodIn_app (goodIn_of _ (by decide +kernel)) ggX7_up_X7_wasRound
theorem dX7_up_0 : decode cX7_up 0 = .ok (.aload_n 0, 1) := by decide +kernel
theorem dX7_up_1 : decode cX7_up 1 = .ok (.iload_n 1, 1) := by decide +kernel
theorem dX7_up_2 : decode cX7_up 2 = .ok (.iload_n 2, 1) := by decide +kernel
theorem dX7_up_3 : decode cX7_up 3 = .ok (.invokevirtual 78, 3) := by decide +kernel
theorem dX7_up_6 : decode cX7_up 6 = .ok (.astore 4, 2) := by decide +kernel
theorem dX7_up_8 : decode cX7_up 8 = .ok (.aload 4, 2) := by decide +kernel
theorem dX7_up_10 : decode cX7_up 10 = .ok (.ifnull 11, 3) := by decide +kernel
theorem dX7_up_13 : decode cX7_up 13 = .ok (.aload_n 0, 1) := by decide +kernel
theorem dX7_up_14 : decode cX7_up 14 = .ok (.iload_n 3, 1) := by decide +kernel
theorem dX7_up_15 : decode cX7_up 15 = .ok (.invokevirtual 160, 3) := by decide +kernel
theorem dX7_up_18 : decode cX7_up 18 = .ok (.ifCond .ne 5, 3) := by decide +kernel
theorem dX7_up_21 : decode cX7_up 21 = .ok (.iconst (-1), 1) := by decide +kernel
theorem dX7_up_22 : decode cX7_up 22 = .ok (.ireturn, 1) := by decide +kernel
theorem dX7_up_23 : decode cX7_up 23 = .ok (.aload 4, 2) := by decide +kernel
theorem dX7_up_25 : decode cX7_up 25 = .ok (.getfield 102, 3) := by decide +kernel
theorem dX7_up_28 : decode cX7_up 28 = .ok (.iload_n 3, 1) := by decide +kernel
theorem dX7_up_29 : decode cX7_up 29 = .ok (.iconst 1, 1) := by decide +kernel
theorem dX7_up_30 : decode cX7_up 30 = .ok (.iadd, 1) := by decide +kernel
theorem dX7_up_31 : decode cX7_up 31 = .ok (.iaload, 1) := by decide +kernel
theorem dX7_up_32 : decode cX7_up 32 = .ok (.aload 4, 2) := by decide +kernel
theorem dX7_up_34 : decode cX7_up 34 = .ok (.getfield 102, 3) := by decide +kernel
theorem dX7_up_37 : decode cX7_up 37 = .ok (.iload_n 3, 1) := by decide +kernel
theorem dX7_up_38 : decode cX7_up 38 = .ok (.iaload, 1) := by decide +kernel
theorem dX7_up_39 : decode cX7_up 39 = .ok (.isub, 1) := by decide +kernel
theorem dX7_up_40 : decode cX7_up 40 = .ok (.ireturn, 1) := by decide +kernel
set_option maxRecDepth 20000 in
theorem ggX7_check_X7_find : GoodIn wsX7_check wsX7_find := goodIn_r _ [6, 7, 8, 9, 10, 11, 5, 12, 13, 14, 15, 16, 17, 18, 19, 20, 21, 22, 23, 24, 25, 26, 27, 28, 29, 30, 31, 32, 33, 34, 35, 36, 37, 38, 39, 40, 41, 42, 43, 44, 45, 46, 47, 48, 49, 64, 65, 66] (by decide +kernel) (by decide +kernel)
set_option maxRecDepth 20000 in
theorem gX7_check_X7_find : GoodIn wsX7_check (wsV RX7 78 RX7 yX7_find wsX7_find) := goodIn_app (goodIn_of _ (by decide +kernel)) ggX7_check_X7_find
theorem dX7_check_0 : decode cX7_check 0 = .ok (.aload_n 0, 1) := by decide +kernel
theorem dX7_check_1 : decode cX7_check 1 = .ok (.iload_n 1, 1) := by decide +kernel
theorem dX7_check_2 : decode cX7_check 2 = .ok (.iload_n 2, 1) := by decide +kernel
theorem dX7_check_3 : decode cX7_check 3 = .ok (.invokevirtual 78, 3) := by decide +kernel
theorem dX7_check_6 : decode cX7_check 6 = .ok (.astore 5, 2) := by decide +kernel
theorem dX7_check_8 : decode cX7_check 8 = .ok (.aload 5, 2) := by decide +kernel
theorem dX7_check_10 : decode cX7_check 10 = .ok (.ifnull 19, 3) := by decide +kernel
theorem dX7_check_13 : decode cX7_check 13 = .ok (.aload_n 0, 1) := by decide +kernel
theorem dX7_check_14 : decode cX7_check 14 = .ok (.getfield 54, 3) := by decide +kernel
theorem dX7_check_17 : decode cX7_check 17 = .ok (.ifCond .eq 12, 3) := by decide +kernel
theorem dX7_check_20 : decode cX7_check 20 = .ok (.iload_n 3, 1) := by decide +kernel
theorem dX7_check_21 : decode cX7_check 21 = .ok (.ifCond .lt 8, 3) := by decide +kernel
theorem dX7_check_24 : decode cX7_check 24 = .ok (.iload_n 3, 1) := by decide +kernel
theorem dX7_check_25 : decode cX7_check 25 = .ok (.iconst 3, 1) := by decide +kernel
theorem dX7_check_26 : decode cX7_check 26 = .ok (.if_icmp .lt 5, 3) := by decide +kernel
theorem dX7_check_29 : decode cX7_check 29 = .ok (.iconst (-1), 1) := by decide +kernel
theorem dX7_check_30 : decode cX7_check 30 = .ok (.ireturn, 1) := by decide +kernel
theorem dX7_check_31 : decode cX7_check 31 = .ok (.iload 4, 2) := by decide +kernel
theorem dX7_check_33 : decode cX7_check 33 = .ok (.tableswitch 63 0 3 #[31, 39, 47, 55], 31) := by decide +kernel
theorem dX7_check_64 : decode cX7_check 64 = .ok (.aload 5, 2) := by decide +kernel
theorem dX7_check_66 : decode cX7_check 66 = .ok (.getfield 163, 3) := by decide +kernel
theorem dX7_check_69 : decode cX7_check 69 = .ok (.iload_n 3, 1) := by decide +kernel
theorem dX7_check_70 : decode cX7_check 70 = .ok (.iaload, 1) := by decide +kernel
theorem dX7_check_71 : decode cX7_check 71 = .ok (.ireturn, 1) := by decide +kernel
theorem dX7_check_72 : decode cX7_check 72 = .ok (.aload 5, 2) := by decide +kernel
theorem dX7_check_74 : decode cX7_check 74 = .ok (.getfield 166, 3) := by decide +kernel
theorem dX7_check_77 : decode cX7_check 77 = .ok (.iload_n 3, 1) := by decide +kernel
theorem dX7_check_78 : decode cX7_check 78 = .ok (.iaload, 1) := by decide +kernel
theorem dX7_check_79 : decode cX7_check 79 = .ok (.ireturn, 1) := by decide +kernel
theorem dX7_check_80 : decode cX7_check 80 = .ok (.aload 5, 2) := by decide +kernel
theorem dX7_check_82 : decode cX7_check 82 = .ok (.getfield 169, 3) := by decide +kernel
theorem dX7_check_85 : decode cX7_check 85 = .ok (.iload_n 3, 1) := by decide +kernel
theorem dX7_check_86 : decode cX7_check 86 = .ok (.iaload, 1) := by decide +kernel
theorem dX7_check_87 : decode cX7_check 87 = .ok (.ireturn, 1) := by decide +kernel
theorem dX7_check_88 : decode cX7_check 88 = .ok (.aload 5, 2) := by decide +kernel
theorem dX7_check_90 : decode cX7_check 90 = .ok (.getfield 172, 3) := by decide +kernel
theorem dX7_check_93 : decode cX7_check 93 = .ok (.iload_n 3, 1) := by decide +kernel
theorem dX7_check_94 : decode cX7_check 94 = .ok (.iaload, 1) := by decide +kernel
theorem dX7_check_95 : decode cX7_check 95 = .ok (.ireturn, 1) := by decide +kernel
theorem dX7_check_96 : decode cX7_check 96 = .ok (.iconst (-1), 1) := by decide +kernel
theorem dX7_check_97 : decode cX7_check 97 = .ok (.ireturn, 1) := by decide +kernel
set_option maxRecDepth 20000 in
theorem ggX7_flag_X7_find : GoodIn wsX7_flag wsX7_find := goodIn_r _ [5, 6, 7, 8, 9, 10, 4, 11, 12, 13, 14, 15, 16, 17, 18, 19, 20, 21, 22, 23, 24, 25, 26, 27, 28, 29, 30, 31, 32, 33, 34, 35, 36, 37, 38, 52, 53, 54, 55, 56, 57, 58, 59, 60, 61, 62, 63, 64] (by decide +kernel) (by decide +kernel)
set_option maxRecDepth 20000 in
theorem gX7_flag_X7_find : GoodIn wsX7_flag (wsV RX7 78 RX7 yX7_find wsX7_find) := goodIn_app (goodIn_of _ (by decide +kernel)) ggX7_flag_X7_find
set_option maxRecDepth 20000 in
theorem ggX7_flag_X7_wasRound : GoodIn wsX7_flag wsX7_wasRound := goodIn_r _ [42, 43, 52, 53, 54, 55, 56, 57, 58, 59, 60, 61] (by decide +kernel) (by decide +kernel)
set_option maxRecDepth 20000 in
theorem gX7_flag_X7_wasRound : GoodIn wsX7_flag (wsV RX7 160 RX7 yX7_wasRound wsX7_wasRound) := goodIn_app (goodIn_of _ (by decide +kernel)) ggX7_flag_X7_wasRound
set_option maxRecDepth 20000 in
theorem ggX7_flag_X7_mix : GoodIn wsX7_flag wsX7_mix := goodIn_r _ [47, 48, 52, 53, 54, 55, 56, 57, 58, 59, 60, 61, 65, 66, 67, 68, 69, 70, 71, 72, 73, 74, 75, 76, 77, 78] (by decide +kernel) (by decide +kernel)
set_option maxRecDepth 20000 in
theorem gX7_flag_X7_mix : GoodIn wsX7_flag (wsV RX7 175 RX7 yX7_mix wsX7_mix) := goodIn_app (goodIn_of _ (by decide +kernel)) ggX7_flag_X7_mix
set_option maxRecDepth 20000 in
theorem ggX7_flag_X7_flagOf : GoodIn wsX7_flag wsX7_flagOf := goodIn_r _ [51] (by decide +kernel) (by decide +kernel)
set_option maxRecDepth 20000 in
theorem gX7_flag_X7_flagOf : GoodIn wsX7_flag (va_wsS RX7 179 yX7_flagOf wsX7_flagOf) := goodIn_app (goodIn_of _ (by decide +kernel)) ggX7_flag_X7_flagOf
theorem dX7_flag_0 : decode cX7_flag 0 = .ok (.aload_n 0, 1) := by decide +kernel
theorem dX7_flag_1 : decode cX7_flag 1 = .ok (.iload_n 1, 1) := by decide +kernel
theorem dX7_flag_2 : decode cX7_flag 2 = .ok (.iload_n 2, 1) := by decide +kernel
theorem dX7_flag_3 : decode cX7_flag 3 = .ok (.invokevirtual 78, 3) := by decide +kernel
theorem dX7_flag_6 : decode cX7_flag 6 = .ok (.astore 4, 2) := by decide +kernel
theorem dX7_flag_8 : decode cX7_flag 8 = .ok (.aload 4, 2) := by decide +kernel
theorem dX7_flag_10 : decode cX7_flag 10 = .ok (.ifnull 11, 3) := by decide +kernel
theorem dX7_flag_13 : decode cX7_flag 13 = .ok (.aload_n 0, 1) := by decide +kernel
theorem dX7_flag_14 : decode cX7_flag 14 = .ok (.iload_n 3, 1) := by decide +kernel
theorem dX7_flag_15 : decode cX7_flag 15 = .ok (.invokevirtual 160, 3) := by decide +kernel
theorem dX7_flag_18 : decode cX7_flag 18 = .ok (.ifCond .ne 5, 3) := by decide +kernel
theorem dX7_flag_21 : decode cX7_flag 21 = .ok (.iconst (-1), 1) := by decide +kernel
theorem dX7_flag_22 : decode cX7_flag 22 = .ok (.ireturn, 1) := by decide +kernel
theorem dX7_flag_23 : decode cX7_flag 23 = .ok (.aload_n 0, 1) := by decide +kernel
theorem dX7_flag_24 : decode cX7_flag 24 = .ok (.iload_n 3, 1) := by decide +kernel
theorem dX7_flag_25 : decode cX7_flag 25 = .ok (.aload 4, 2) := by decide +kernel
theorem dX7_flag_27 : decode cX7_flag 27 = .ok (.invokevirtual 175, 3) := by decide +kernel
theorem dX7_flag_30 : decode cX7_flag 30 = .ok (.invokestatic 179, 3) := by decide +kernel
theorem dX7_flag_33 : decode cX7_flag 33 = .ok (.ireturn, 1) := by decide +kernel
set_option maxRecDepth 20000 in
theorem ggX7_hand_X7_find : GoodIn wsX7_hand wsX7_find := goodIn_r _ [10, 11, 12, 13, 14, 15, 9, 16, 17, 18, 19, 20, 21, 22, 23, 24, 25, 26, 27, 28, 29, 30, 31, 32, 33, 34, 35, 36, 37, 38, 39, 40, 41, 42, 43, 129, 130, 131, 132, 133, 134, 135, 136, 137, 138, 142, 143, 144] (by decide +kernel) (by decide +kernel)
set_option maxRecDepth 20000 in
theorem gX7_hand_X7_find : GoodIn wsX7_hand (wsV RX7 78 RX7 yX7_find wsX7_find) := goodIn_app (goodIn_of _ (by decide +kernel)) ggX7_hand_X7_find
set_option maxRecDepth 20000 in
theorem ggX7_hand_X7_isTeam : GoodIn wsX7_hand wsX7_isTeam := goodIn_r _ [16, 17, 18, 19, 9, 20, 11, 21, 22, 23, 24, 25, 26, 129, 130, 131, 132, 133, 134, 135, 136, 137, 138, 142, 143, 144] (by decide +kernel) (by decide +kernel)
set_option maxRecDepth 20000 in
theorem gX7_hand_X7_isTeam : GoodIn wsX7_hand (wsV RX7 117 RX7 yX7_isTeam wsX7_isTeam) := goodIn_app (goodIn_of _ (by decide +kernel)) ggX7_hand_X7_isTeam
set_option maxRecDepth 20000 in
theorem ggX7_hand_X7_isNumber : GoodIn wsX7_hand wsX7_isNumber := goodIn_r _ [46] (by decide +kernel) (by decide +kernel)
set_option maxRecDepth 20000 in
theorem gX7_hand_X7_isNumber : GoodIn wsX7_hand (va_wsS RX7 121 yX7_isNumber wsX7_isNumber) := goodIn_app (goodIn_of _ (by decide +kernel)) ggX7_hand_X7_isNumber
set_option maxRecDepth 20000 in
theorem ggX7_hand_X7_roundThatCounts : GoodIn wsX7_hand wsX7_roundThatCounts := goodIn_r _ [50, 1, 51, 52, 53, 54, 55, 56, 57, 58, 9, 59, 60, 61, 62, 63, 64, 65, 66, 67, 129, 130, 131, 132, 133, 134, 135, 136, 137, 138, 145, 146, 147, 148, 149, 150, 151, 152, 153, 154, 155, 156, 157, 158] (by decide +kernel) (by decide +kernel)
set_option maxRecDepth 20000 in
theorem gX7_hand_X7_roundThatCounts : GoodIn wsX7_hand (wsV RX7 183 RX7 yX7_roundThatCounts wsX7_roundThatCounts) := goodIn_app (goodIn_of _ (by decide +kernel)) ggX7_hand_X7_roundThatCounts
set_option maxRecDepth 20000 in
theorem ggX7_hand_X5_take : GoodIn wsX7_hand wsX5_take := goodIn_r _ [70, 67, 145, 146, 147, 148, 149, 150, 151, 152, 153, 154, 155, 156, 157, 158] (by decide +kernel) (by decide +kernel)
set_option maxRecDepth 20000 in
theorem gX7_hand_X5_take_n187 : GoodIn wsX7_hand (wsX5_take) := ggX7_hand_X5_take
set_option maxRecDepth 20000 in
theorem ggX7_hand_X0_init : GoodIn wsX7_hand wsX0_init := goodIn_r _ [72, 73, 74, 75, 76, 77, 78, 139, 140, 141] (by decide +kernel) (by decide +kernel)
set_option maxRecDepth 20000 in
theorem gX7_hand_X0_init_n193 : GoodIn wsX7_hand (wsX0_init) := ggX7_hand_X0_init
set_option maxRecDepth 20000 in
theorem ggX7_hand_Jx4a65c_add_9ea2d : GoodIn wsX7_hand wsJx4a65c_add_9ea2d := goodIn_r _ [82, 83, 84, 43, 26, 85, 86, 87, 24, 88, 89, 90, 91, 92, 93, 94, 95, 96, 97, 98, 53, 54, 55, 99, 100, 101, 102, 103, 104, 105, 106, 107, 108, 109, 110, 111, 112, 113, 114, 115, 116, 117, 118, 119, 120, 121, 122, 123, 124, 125, 126, 127, 128, 142, 143, 144] (by decide +kernel) (by decide +kernel)
set_option maxRecDepth 20000 in
theorem gX7_hand_Jx4a65c_add_9ea2d : GoodIn wsX7_hand (wsV RX7 67 RJx4a65c yJx4a65c_add_9ea2d wsJx4a65c_add_9ea2d) := goodIn_app (goodIn_of _ (by decide +kernel)) ggX7_hand_Jx4a65c_add_9ea2d
theorem dX7_hand_0 : decode cX7_hand 0 = .ok (.aload_n 0, 1) := by decide +kernel
theorem dX7_hand_1 : decode cX7_hand 1 = .ok (.iload_n 2, 1) := by decide +kernel
theorem dX7_hand_2 : decode cX7_hand 2 = .ok (.iload_n 3, 1) := by decide +kernel
theorem dX7_hand_3 : decode cX7_hand 3 = .ok (.invokevirtual 78, 3) := by decide +kernel
theorem dX7_hand_6 : decode cX7_hand 6 = .ok (.astore 5, 2) := by decide +kernel
theorem dX7_hand_8 : decode cX7_hand 8 = .ok (.aload_n 0, 1) := by decide +kernel
theorem dX7_hand_9 : decode cX7_hand 9 = .ok (.iload_n 1, 1) := by decide +kernel
theorem dX7_hand_10 : decode cX7_hand 10 = .ok (.invokevirtual 117, 3) := by decide +kernel
theorem dX7_hand_13 : decode cX7_hand 13 = .ok (.ifCond .eq 8, 3) := by decide +kernel
theorem dX7_hand_16 : decode cX7_hand 16 = .ok (.aload 5, 2) := by decide +kernel
theorem dX7_hand_18 : decode cX7_hand 18 = .ok (.ifnonnull 5, 3) := by decide +kernel
theorem dX7_hand_21 : decode cX7_hand 21 = .ok (.iconst (-1), 1) := by decide +kernel
theorem dX7_hand_22 : decode cX7_hand 22 = .ok (.ireturn, 1) := by decide +kernel
theorem dX7_hand_23 : decode cX7_hand 23 = .ok (.iload 4, 2) := by decide +kernel
theorem dX7_hand_25 : decode cX7_hand 25 = .ok (.invokestatic 121, 3) := by decide +kernel
theorem dX7_hand_28 : decode cX7_hand 28 = .ok (.ifCond .eq 8, 3) := by decide +kernel
theorem dX7_hand_31 : decode cX7_hand 31 = .ok (.iload_n 1, 1) := by decide +kernel
theorem dX7_hand_32 : decode cX7_hand 32 = .ok (.iload_n 2, 1) := by decide +kernel
theorem dX7_hand_33 : decode cX7_hand 33 = .ok (.if_icmp .ne 6, 3) := by decide +kernel
theorem dX7_hand_36 : decode cX7_hand 36 = .ok (.bipush (-2), 2) := by decide +kernel
theorem dX7_hand_38 : decode cX7_hand 38 = .ok (.ireturn, 1) := by decide +kernel
theorem dX7_hand_39 : decode cX7_hand 39 = .ok (.aload_n 0, 1) := by decide +kernel
theorem dX7_hand_40 : decode cX7_hand 40 = .ok (.iload_n 1, 1) := by decide +kernel
theorem dX7_hand_41 : decode cX7_hand 41 = .ok (.aload 5, 2) := by decide +kernel
theorem dX7_hand_43 : decode cX7_hand 43 = .ok (.iload 4, 2) := by decide +kernel
theorem dX7_hand_45 : decode cX7_hand 45 = .ok (.invokevirtual 183, 3) := by decide +kernel
theorem dX7_hand_48 : decode cX7_hand 48 = .ok (.istore 6, 2) := by decide +kernel
theorem dX7_hand_50 : decode cX7_hand 50 = .ok (.iload 6, 2) := by decide +kernel
theorem dX7_hand_52 : decode cX7_hand 52 = .ok (.ifCond .ge 6, 3) := by decide +kernel
theorem dX7_hand_55 : decode cX7_hand 55 = .ok (.bipush (-3), 2) := by decide +kernel
theorem dX7_hand_57 : decode cX7_hand 57 = .ok (.ireturn, 1) := by decide +kernel
theorem dX7_hand_58 : decode cX7_hand 58 = .ok (.aload 5, 2) := by decide +kernel
theorem dX7_hand_60 : decode cX7_hand 60 = .ok (.iload_n 1, 1) := by decide +kernel
theorem dX7_hand_61 : decode cX7_hand 61 = .ok (.iload 6, 2) := by decide +kernel
theorem dX7_hand_63 : decode cX7_hand 63 = .ok (.aload_n 0, 1) := by decide +kernel
theorem dX7_hand_64 : decode cX7_hand 64 = .ok (.getfield 54, 3) := by decide +kernel
theorem dX7_hand_67 : decode cX7_hand 67 = .ok (.invokevirtual 187, 3) := by decide +kernel
theorem dX7_hand_70 : decode cX7_hand 70 = .ok (.aload_n 0, 1) := by decide +kernel
theorem dX7_hand_71 : decode cX7_hand 71 = .ok (.getfield 20, 3) := by decide +kernel
theorem dX7_hand_74 : decode cX7_hand 74 = .ok (.new 191, 3) := by decide +kernel
theorem dX7_hand_77 : decode cX7_hand 77 = .ok (.dup, 1) := by decide +kernel
theorem dX7_hand_78 : decode cX7_hand 78 = .ok (.iload_n 1, 1) := by decide +kernel
theorem dX7_hand_79 : decode cX7_hand 79 = .ok (.aload 5, 2) := by decide +kernel
theorem dX7_hand_81 : decode cX7_hand 81 = .ok (.iload 6, 2) := by decide +kernel
theorem dX7_hand_83 : decode cX7_hand 83 = .ok (.invokespecial 193, 3) := by decide +kernel
theorem dX7_hand_86 : decode cX7_hand 86 = .ok (.invokevirtual 67, 3) := by decide +kernel
theorem dX7_hand_89 : decode cX7_hand 89 = .ok (.pop, 1) := by decide +kernel
theorem dX7_hand_90 : decode cX7_hand 90 = .ok (.iload 6, 2) := by decide +kernel
theorem dX7_hand_92 : decode cX7_hand 92 = .ok (.ireturn, 1) := by decide +kernel
set_option maxRecDepth 20000 in
theorem ggX7_points_X7_isTeam : GoodIn wsX7_points wsX7_isTeam := goodIn_r _ [6, 7, 8, 9, 5, 10, 11, 12, 13, 14, 15, 16, 17, 75, 76, 77, 78, 79, 80, 81, 82, 83, 84, 85, 86, 87] (by decide +kernel) (by decide +kernel)
set_option maxRecDepth 20000 in
theorem gX7_points_X7_isTeam : GoodIn wsX7_points (wsV RX7 117 RX7 yX7_isTeam wsX7_isTeam) := goodIn_app (goodIn_of _ (by decide +kernel)) ggX7_points_X7_isTeam
set_option maxRecDepth 20000 in
theorem ggX7_points_X7_pointsAhead : GoodIn wsX7_points wsX7_pointsAhead := goodIn_r _ [21, 22, 23, 24, 5, 25, 26, 27, 28, 29, 30, 11, 31, 12, 13, 14, 15, 16, 17, 32, 33, 34, 35, 36, 37, 38, 39, 40, 41, 42, 43, 44, 45, 46, 47, 48, 49, 50, 51, 52, 53, 54, 55, 56, 57, 58, 59, 60, 61, 62, 63, 64, 65, 66, 67, 68, 69, 70, 75, 76, 77, 78, 79, 80, 81, 82, 83, 84, 88, 89, 90, 91, 92, 93, 94, 95, 96, 97, 98, 99, 100, 101, 85, 86, 87, 102, 103, 104] (by decide +kernel) (by decide +kernel)
set_option maxRecDepth 20000 in
theorem gX7_points_X7_pointsAhead : GoodIn wsX7_points (wsV RX7 197 RX7 yX7_pointsAhead wsX7_pointsAhead) := goodIn_app (goodIn_of _ (by decide +kernel)) ggX7_points_X7_pointsAhead
set_option maxRecDepth 20000 in
theorem ggX7_points_X7_upPoints : GoodIn wsX7_points wsX7_upPoints := goodIn_r _ [25, 26, 27, 28, 29, 30, 11, 31, 12, 13, 14, 15, 16, 17, 32, 33, 34, 35, 36, 37, 38, 39, 40, 41, 42, 43, 44, 45, 46, 47, 48, 75, 76, 77, 78, 79, 80, 81, 82, 83, 84, 88, 89, 90, 91, 92, 93, 94, 95, 96, 97, 98, 99, 100, 101, 85, 86, 87] (by decide +kernel) (by decide +kernel)
set_option maxRecDepth 20000 in
theorem gX7_points_X7_upPoints : GoodIn wsX7_points (wsV RX7 201 RX7 yX7_upPoints wsX7_upPoints) := goodIn_app (goodIn_of _ (by decide +kernel)) ggX7_points_X7_upPoints
set_option maxRecDepth 20000 in
theorem ggX7_points_X7_stolenPoints : GoodIn wsX7_points wsX7_stolenPoints := goodIn_r _ [52, 53, 54, 12, 13, 14, 15, 16, 17, 32, 33, 34, 35, 36, 37, 38, 39, 40, 41, 42, 43, 44, 45, 46, 47, 48, 55, 56, 57, 58, 59, 60, 61, 62, 63, 64, 65, 5, 66, 75, 76, 77, 78, 79, 80, 81, 82, 83, 84, 102, 103, 104, 85, 86, 87, 88, 89, 90, 91, 92, 93, 94, 95, 96, 97, 98, 99, 100, 101] (by decide +kernel) (by decide +kernel)
set_option maxRecDepth 20000 in
theorem gX7_points_X7_stolenPoints : GoodIn wsX7_points (wsV RX7 204 RX7 yX7_stolenPoints wsX7_stolenPoints) := goodIn_app (goodIn_of _ (by decide +kernel)) ggX7_points_X7_stolenPoints
set_option maxRecDepth 20000 in
theorem ggX7_points_X7_takenOff : GoodIn wsX7_points wsX7_takenOff := goodIn_r _ [70, 53, 54, 12, 13, 14, 15, 16, 17, 32, 33, 34, 35, 36, 37, 38, 39, 40, 41, 42, 43, 44, 45, 46, 47, 48, 55, 56, 57, 58, 59, 75, 76, 77, 78, 79, 80, 81, 82, 83, 84, 102, 103, 104, 88, 89, 90, 91, 92, 93, 94, 95, 96, 97, 98, 99, 100, 101, 85, 86, 87] (by decide +kernel) (by decide +kernel)
set_option maxRecDepth 20000 in
theorem gX7_points_X7_takenOff : GoodIn wsX7_points (wsV RX7 207 RX7 yX7_takenOff wsX7_takenOff) := goodIn_app (goodIn_of _ (by decide +kernel)) ggX7_points_X7_takenOff
set_option maxRecDepth 20000 in
theorem ggX7_points_X7_handInsBy : GoodIn wsX7_points wsX7_handInsBy := goodIn_r _ [74, 53, 54, 12, 13, 14, 15, 16, 17, 32, 33, 34, 35, 36, 37, 38, 39, 40, 41, 42, 43, 44, 45, 46, 47, 48, 75, 76, 77, 78, 79, 80, 81, 82, 83, 84, 102, 103, 104, 85, 86, 87] (by decide +kernel) (by decide +kernel)
set_option maxRecDepth 20000 in
theorem gX7_points_X7_handInsBy : GoodIn wsX7_points (wsV RX7 210 RX7 yX7_handInsBy wsX7_handInsBy) := goodIn_app (goodIn_of _ (by decide +kernel)) ggX7_points_X7_handInsBy
theorem dX7_points_0 : decode cX7_points 0 = .ok (.aload_n 0, 1) := by decide +kernel
theorem dX7_points_1 : decode cX7_points 1 = .ok (.iload_n 1, 1) := by decide +kernel
theorem dX7_points_2 : decode cX7_points 2 = .ok (.invokevirtual 117, 3) := by decide +kernel
theorem dX7_points_5 : decode cX7_points 5 = .ok (.ifCond .ne 6, 3) := by decide +kernel
theorem dX7_points_8 : decode cX7_points 8 = .ok (.ldc 196, 2) := by decide +kernel
theorem dX7_points_10 : decode cX7_points 10 = .ok (.ireturn, 1) := by decide +kernel
theorem dX7_points_11 : decode cX7_points 11 = .ok (.iload_n 2, 1) := by decide +kernel
theorem dX7_points_12 : decode cX7_points 12 = .ok (.tableswitch 74 0 4 #[36, 44, 52, 60, 68], 36) := by decide +kernel
theorem dX7_points_48 : decode cX7_points 48 = .ok (.aload_n 0, 1) := by decide +kernel
theorem dX7_points_49 : decode cX7_points 49 = .ok (.iload_n 1, 1) := by decide +kernel
theorem dX7_points_50 : decode cX7_points 50 = .ok (.bipush 100, 2) := by decide +kernel
theorem dX7_points_52 : decode cX7_points 52 = .ok (.invokevirtual 197, 3) := by decide +kernel
theorem dX7_points_55 : decode cX7_points 55 = .ok (.ireturn, 1) := by decide +kernel
theorem dX7_points_56 : decode cX7_points 56 = .ok (.aload_n 0, 1) := by decide +kernel
theorem dX7_points_57 : decode cX7_points 57 = .ok (.iload_n 1, 1) := by decide +kernel
theorem dX7_points_58 : decode cX7_points 58 = .ok (.bipush 100, 2) := by decide +kernel
theorem dX7_points_60 : decode cX7_points 60 = .ok (.invokevirtual 201, 3) := by decide +kernel
theorem dX7_points_63 : decode cX7_points 63 = .ok (.ireturn, 1) := by decide +kernel
theorem dX7_points_64 : decode cX7_points 64 = .ok (.aload_n 0, 1) := by decide +kernel
theorem dX7_points_65 : decode cX7_points 65 = .ok (.iload_n 1, 1) := by decide +kernel
theorem dX7_points_66 : decode cX7_points 66 = .ok (.bipush 100, 2) := by decide +kernel
theorem dX7_points_68 : decode cX7_points 68 = .ok (.invokevirtual 204, 3) := by decide +kernel
theorem dX7_points_71 : decode cX7_points 71 = .ok (.ireturn, 1) := by decide +kernel
theorem dX7_points_72 : decode cX7_points 72 = .ok (.aload_n 0, 1) := by decide +kernel
theorem dX7_points_73 : decode cX7_points 73 = .ok (.iload_n 1, 1) := by decide +kernel
theorem dX7_points_74 : decode cX7_points 74 = .ok (.bipush 100, 2) := by decide +kernel
theorem dX7_points_76 : decode cX7_points 76 = .ok (.invokevirtual 207, 3) := by decide +kernel
theorem dX7_points_79 : decode cX7_points 79 = .ok (.ireturn, 1) := by decide +kernel
theorem dX7_points_80 : decode cX7_points 80 = .ok (.aload_n 0, 1) := by decide +kernel
theorem dX7_points_81 : decode cX7_points 81 = .ok (.iload_n 1, 1) := by decide +kernel
theorem dX7_points_82 : decode cX7_points 82 = .ok (.invokevirtual 210, 3) := by decide +kernel
theorem dX7_points_85 : decode cX7_points 85 = .ok (.ireturn, 1) := by decide +kernel
theorem dX7_points_86 : decode cX7_points 86 = .ok (.ldc 196, 2) := by decide +kernel
theorem dX7_points_88 : decode cX7_points 88 = .ok (.ireturn, 1) := by decide +kernel
set_option maxRecDepth 20000 in
theorem ggX7_board_X7_isTeam : GoodIn wsX7_board wsX7_isTeam := goodIn_r _ [8, 9, 10, 11, 7, 12, 13, 14, 15, 16, 17, 18, 19, 77, 78, 79, 80, 81, 82, 83, 84, 85, 86, 87, 88, 89] (by decide +kernel) (by decide +kernel)
set_option maxRecDepth 20000 in
theorem gX7_board_X7_isTeam : GoodIn wsX7_board (wsV RX7 117 RX7 yX7_isTeam wsX7_isTeam) := goodIn_app (goodIn_of _ (by decide +kernel)) ggX7_board_X7_isTeam
set_option maxRecDepth 20000 in
theorem ggX7_board_X7_teams : GoodIn wsX7_board wsX7_teams := goodIn_r _ [12, 13, 14, 15, 16, 17, 18, 19, 77, 78, 79, 80, 81, 82, 83, 84, 85, 86, 87, 88, 89] (by decide +kernel) (by decide +kernel)
set_option maxRecDepth 20000 in
theorem gX7_board_X7_teams : GoodIn wsX7_board (wsV RX7 58 RX7 yX7_teams wsX7_teams) := goodIn_app (goodIn_of _ (by decide +kernel)) ggX7_board_X7_teams
set_option maxRecDepth 20000 in
theorem ggX7_board_X7_pointsAhead : GoodIn wsX7_board wsX7_pointsAhead := goodIn_r _ [23, 24, 25, 26, 7, 27, 28, 29, 30, 31, 32, 13, 33, 14, 15, 16, 17, 18, 19, 34, 35, 36, 37, 38, 39, 40, 41, 42, 43, 44, 45, 46, 47, 48, 49, 50, 51, 52, 53, 54, 55, 56, 57, 58, 59, 60, 61, 62, 63, 64, 65, 66, 67, 68, 69, 70, 71, 72, 77, 78, 79, 80, 81, 82, 83, 84, 85, 86, 90, 91, 92, 93, 94, 95, 96, 97, 98, 99, 100, 101, 102, 103, 87, 88, 89, 104, 105, 106] (by decide +kernel) (by decide +kernel)
set_option maxRecDepth 20000 in
theorem gX7_board_X7_pointsAhead : GoodIn wsX7_board (wsV RX7 197 RX7 yX7_pointsAhead wsX7_pointsAhead) := goodIn_app (goodIn_of _ (by decide +kernel)) ggX7_board_X7_pointsAhead
set_option maxRecDepth 20000 in
theorem ggX7_board_X7_placeOnBoard : GoodIn wsX7_board wsX7_placeOnBoard := goodIn_r _ [76, 2, 77, 78, 79, 80, 81, 82, 83, 84, 85, 86] (by decide +kernel) (by decide +kernel)
set_option maxRecDepth 20000 in
theorem gX7_board_X7_placeOnBoard : GoodIn wsX7_board (wsV RX7 213 RX7 yX7_placeOnBoard wsX7_placeOnBoard) := goodIn_app (goodIn_of _ (by decide +kernel)) ggX7_board_X7_placeOnBoard
theorem dX7_board_0 : decode cX7_board 0 = .ok (.aload_n 0, 1) := by decide +kernel
theorem dX7_board_1 : decode cX7_board 1 = .ok (.iload_n 1, 1) := by decide +kernel
theorem dX7_board_2 : decode cX7_board 2 = .ok (.invokevirtual 117, 3) := by decide +kernel
theorem dX7_board_5 : decode cX7_board 5 = .ok (.ifCond .eq 12, 3) := by decide +kernel
theorem dX7_board_8 : decode cX7_board 8 = .ok (.iload_n 2, 1) := by decide +kernel
theorem dX7_board_9 : decode cX7_board 9 = .ok (.ifCond .lt 8, 3) := by decide +kernel
theorem dX7_board_12 : decode cX7_board 12 = .ok (.iload_n 2, 1) := by decide +kernel
theorem dX7_board_13 : decode cX7_board 13 = .ok (.iconst 1, 1) := by decide +kernel
theorem dX7_board_14 : decode cX7_board 14 = .ok (.if_icmp .le 6, 3) := by decide +kernel
theorem dX7_board_17 : decode cX7_board 17 = .ok (.ldc 196, 2) := by decide +kernel
theorem dX7_board_19 : decode cX7_board 19 = .ok (.ireturn, 1) := by decide +kernel
theorem dX7_board_20 : decode cX7_board 20 = .ok (.aload_n 0, 1) := by decide +kernel
theorem dX7_board_21 : decode cX7_board 21 = .ok (.invokevirtual 58, 3) := by decide +kernel
theorem dX7_board_24 : decode cX7_board 24 = .ok (.istore_n 3, 1) := by decide +kernel
theorem dX7_board_25 : decode cX7_board 25 = .ok (.iconst 0, 1) := by decide +kernel
theorem dX7_board_26 : decode cX7_board 26 = .ok (.istore 4, 2) := by decide +kernel
theorem dX7_board_28 : decode cX7_board 28 = .ok (.iload 4, 2) := by decide +kernel
theorem dX7_board_30 : decode cX7_board 30 = .ok (.iload_n 3, 1) := by decide +kernel
theorem dX7_board_31 : decode cX7_board 31 = .ok (.if_icmp .ge 28, 3) := by decide +kernel
theorem dX7_board_34 : decode cX7_board 34 = .ok (.aload_n 0, 1) := by decide +kernel
theorem dX7_board_35 : decode cX7_board 35 = .ok (.getfield 51, 3) := by decide +kernel
theorem dX7_board_38 : decode cX7_board 38 = .ok (.iload 4, 2) := by decide +kernel
theorem dX7_board_40 : decode cX7_board 40 = .ok (.aload_n 0, 1) := by decide +kernel
theorem dX7_board_41 : decode cX7_board 41 = .ok (.iload 4, 2) := by decide +kernel
theorem dX7_board_43 : decode cX7_board 43 = .ok (.aload_n 0, 1) := by decide +kernel
theorem dX7_board_44 : decode cX7_board 44 = .ok (.getfield 7, 3) := by decide +kernel
theorem dX7_board_47 : decode cX7_board 47 = .ok (.iconst 3, 1) := by decide +kernel
theorem dX7_board_48 : decode cX7_board 48 = .ok (.iaload, 1) := by decide +kernel
theorem dX7_board_49 : decode cX7_board 49 = .ok (.invokevirtual 197, 3) := by decide +kernel
theorem dX7_board_52 : decode cX7_board 52 = .ok (.iastore, 1) := by decide +kernel
theorem dX7_board_53 : decode cX7_board 53 = .ok (.iinc 4 1, 3) := by decide +kernel
theorem dX7_board_56 : decode cX7_board 56 = .ok (.goto (-28), 3) := by decide +kernel
theorem dX7_board_59 : decode cX7_board 59 = .ok (.iconst 0, 1) := by decide +kernel
theorem dX7_board_60 : decode cX7_board 60 = .ok (.istore 4, 2) := by decide +kernel
theorem dX7_board_62 : decode cX7_board 62 = .ok (.iload 4, 2) := by decide +kernel
theorem dX7_board_64 : decode cX7_board 64 = .ok (.iload_n 3, 1) := by decide +kernel
theorem dX7_board_65 : decode cX7_board 65 = .ok (.if_icmp .ge 37, 3) := by decide +kernel
theorem dX7_board_68 : decode cX7_board 68 = .ok (.aload_n 0, 1) := by decide +kernel
theorem dX7_board_69 : decode cX7_board 69 = .ok (.iload 4, 2) := by decide +kernel
theorem dX7_board_71 : decode cX7_board 71 = .ok (.iload_n 3, 1) := by decide +kernel
theorem dX7_board_72 : decode cX7_board 72 = .ok (.invokevirtual 213, 3) := by decide +kernel
theorem dX7_board_75 : decode cX7_board 75 = .ok (.iload_n 1, 1) := by decide +kernel
theorem dX7_board_76 : decode cX7_board 76 = .ok (.if_icmp .ne 20, 3) := by decide +kernel
theorem dX7_board_79 : decode cX7_board 79 = .ok (.iload_n 2, 1) := by decide +kernel
theorem dX7_board_80 : decode cX7_board 80 = .ok (.ifCond .ne 8, 3) := by decide +kernel
theorem dX7_board_83 : decode cX7_board 83 = .ok (.iload 4, 2) := by decide +kernel
theorem dX7_board_85 : decode cX7_board 85 = .ok (.goto 10, 3) := by decide +kernel
theorem dX7_board_88 : decode cX7_board 88 = .ok (.aload_n 0, 1) := by decide +kernel
theorem dX7_board_89 : decode cX7_board 89 = .ok (.getfield 51, 3) := by decide +kernel
theorem dX7_board_92 : decode cX7_board 92 = .ok (.iload 4, 2) := by decide +kernel
theorem dX7_board_94 : decode cX7_board 94 = .ok (.iaload, 1) := by decide +kernel
theorem dX7_board_95 : decode cX7_board 95 = .ok (.ireturn, 1) := by decide +kernel
theorem dX7_board_96 : decode cX7_board 96 = .ok (.iinc 4 1, 3) := by decide +kernel
theorem dX7_board_99 : decode cX7_board 99 = .ok (.goto (-37), 3) := by decide +kernel
theorem dX7_board_102 : decode cX7_board 102 = .ok (.ldc 196, 2) := by decide +kernel
theorem dX7_board_104 : decode cX7_board 104 = .ok (.ireturn, 1) := by decide +kernel
set_option maxRecDepth 20000 in
theorem ggX7_gain_X7_teams : GoodIn wsX7_gain wsX7_teams := goodIn_r _ [10, 4, 11, 12, 13, 14, 15, 16, 57, 58, 59, 60, 61, 62, 63, 64, 65, 66, 81, 82, 83] (by decide +kernel) (by decide +kernel)
set_option maxRecDepth 20000 in
theorem gX7_gain_X7_teams : GoodIn wsX7_gain (wsV RX7 58 RX7 yX7_teams wsX7_teams) := goodIn_app (goodIn_of _ (by decide +kernel)) ggX7_gain_X7_teams
set_option maxRecDepth 20000 in
theorem ggX7_gain_J6_bitCount_0f7a4 : GoodIn wsX7_gain wsJ6_bitCount_0f7a4 := goodIn_r _ [20, 21, 22, 23] (by decide +kernel) (by decide +kernel)
set_option maxRecDepth 20000 in
theorem gX7_gain_J6_bitCount_0f7a4 : GoodIn wsX7_gain (va_wsS RX7 216 yJ6_bitCount_0f7a4 wsJ6_bitCount_0f7a4) := goodIn_app (goodIn_of _ (by decide +kernel)) ggX7_gain_J6_bitCount_0f7a4
set_option maxRecDepth 20000 in
theorem ggX7_gain_Jx4a65c_size_8abf5 : GoodIn wsX7_gain wsJx4a65c_size_8abf5 := goodIn_r _ [15, 16, 81, 82, 83] (by decide +kernel) (by decide +kernel)
set_option maxRecDepth 20000 in
theorem gX7_gain_Jx4a65c_size_8abf5 : GoodIn wsX7_gain (wsV RX7 140 RJx4a65c yJx4a65c_size_8abf5 wsJx4a65c_size_8abf5) := goodIn_app (goodIn_of _ (by decide +kernel)) ggX7_gain_Jx4a65c_size_8abf5
set_option maxRecDepth 20000 in
theorem ggX7_gain_Jx4a65c_get_915e3 : GoodIn wsX7_gain wsJx4a65c_get_915e3 := goodIn_r _ [27, 16, 28, 29, 30, 31, 32, 33, 34, 35, 36, 37, 38, 14, 39, 40, 81, 82, 83] (by decide +kernel) (by decide +kernel)
set_option maxRecDepth 20000 in
theorem gX7_gain_Jx4a65c_get_915e3 : GoodIn wsX7_gain (wsV RX7 142 RJx4a65c yJx4a65c_get_915e3 wsJx4a65c_get_915e3) := goodIn_app (goodIn_of _ (by decide +kernel)) ggX7_gain_Jx4a65c_get_915e3
set_option maxRecDepth 20000 in
theorem ggX7_gain_X7_gainFromFlag : GoodIn wsX7_gain wsX7_gainFromFlag := goodIn_r _ [44, 2, 45, 46, 47, 48, 49, 50, 51, 52, 53, 17, 18, 19, 20, 21, 22, 23, 54, 55, 9, 56, 57, 58, 59, 60, 61, 62, 63, 64, 65, 66, 67, 68, 69, 70, 71, 72, 73, 74, 75, 76, 77, 78, 79, 80] (by decide +kernel) (by decide +kernel)
set_option maxRecDepth 20000 in
theorem gX7_gain_X7_gainFromFlag : GoodIn wsX7_gain (wsV RX7 225 RX7 yX7_gainFromFlag wsX7_gainFromFlag) := goodIn_app (goodIn_of _ (by decide +kernel)) ggX7_gain_X7_gainFromFlag
theorem dX7_gain_0 : decode cX7_gain 0 = .ok (.iload_n 1, 1) := by decide +kernel
theorem dX7_gain_1 : decode cX7_gain 1 = .ok (.ifCond .lt 21, 3) := by decide +kernel
theorem dX7_gain_4 : decode cX7_gain 4 = .ok (.iload_n 1, 1) := by decide +kernel
theorem dX7_gain_5 : decode cX7_gain 5 = .ok (.iconst 1, 1) := by decide +kernel
theorem dX7_gain_6 : decode cX7_gain 6 = .ok (.aload_n 0, 1) := by decide +kernel
theorem dX7_gain_7 : decode cX7_gain 7 = .ok (.invokevirtual 58, 3) := by decide +kernel
theorem dX7_gain_10 : decode cX7_gain 10 = .ok (.ishl, 1) := by decide +kernel
theorem dX7_gain_11 : decode cX7_gain 11 = .ok (.if_icmp .ge 11, 3) := by decide +kernel
theorem dX7_gain_14 : decode cX7_gain 14 = .ok (.iload_n 1, 1) := by decide +kernel
theorem dX7_gain_15 : decode cX7_gain 15 = .ok (.invokestatic 216, 3) := by decide +kernel
theorem dX7_gain_18 : decode cX7_gain 18 = .ok (.iconst 2, 1) := by decide +kernel
theorem dX7_gain_19 : decode cX7_gain 19 = .ok (.if_icmp .ge 6, 3) := by decide +kernel
theorem dX7_gain_22 : decode cX7_gain 22 = .ok (.ldc 196, 2) := by decide +kernel
theorem dX7_gain_24 : decode cX7_gain 24 = .ok (.ireturn, 1) := by decide +kernel
theorem dX7_gain_25 : decode cX7_gain 25 = .ok (.aload_n 0, 1) := by decide +kernel
theorem dX7_gain_26 : decode cX7_gain 26 = .ok (.getfield 54, 3) := by decide +kernel
theorem dX7_gain_29 : decode cX7_gain 29 = .ok (.ifCond .ne 6, 3) := by decide +kernel
theorem dX7_gain_32 : decode cX7_gain 32 = .ok (.ldc 221, 2) := by decide +kernel
theorem dX7_gain_34 : decode cX7_gain 34 = .ok (.ireturn, 1) := by decide +kernel
theorem dX7_gain_35 : decode cX7_gain 35 = .ok (.iconst 0, 1) := by decide +kernel
theorem dX7_gain_36 : decode cX7_gain 36 = .ok (.istore_n 2, 1) := by decide +kernel
theorem dX7_gain_37 : decode cX7_gain 37 = .ok (.iconst 0, 1) := by decide +kernel
theorem dX7_gain_38 : decode cX7_gain 38 = .ok (.istore_n 3, 1) := by decide +kernel
theorem dX7_gain_39 : decode cX7_gain 39 = .ok (.iload_n 3, 1) := by decide +kernel
theorem dX7_gain_40 : decode cX7_gain 40 = .ok (.aload_n 0, 1) := by decide +kernel
theorem dX7_gain_41 : decode cX7_gain 41 = .ok (.getfield 16, 3) := by decide +kernel
theorem dX7_gain_44 : decode cX7_gain 44 = .ok (.invokevirtual 140, 3) := by decide +kernel
theorem dX7_gain_47 : decode cX7_gain 47 = .ok (.if_icmp .ge 45, 3) := by decide +kernel
theorem dX7_gain_50 : decode cX7_gain 50 = .ok (.aload_n 0, 1) := by decide +kernel
theorem dX7_gain_51 : decode cX7_gain 51 = .ok (.getfield 16, 3) := by decide +kernel
theorem dX7_gain_54 : decode cX7_gain 54 = .ok (.iload_n 3, 1) := by decide +kernel
theorem dX7_gain_55 : decode cX7_gain 55 = .ok (.invokevirtual 142, 3) := by decide +kernel
theorem dX7_gain_58 : decode cX7_gain 58 = .ok (.checkcast 62, 3) := by decide +kernel
theorem dX7_gain_61 : decode cX7_gain 61 = .ok (.astore 4, 2) := by decide +kernel
theorem dX7_gain_63 : decode cX7_gain 63 = .ok (.iload_n 1, 1) := by decide +kernel
theorem dX7_gain_64 : decode cX7_gain 64 = .ok (.aload 4, 2) := by decide +kernel
theorem dX7_gain_66 : decode cX7_gain 66 = .ok (.getfield 222, 3) := by decide +kernel
theorem dX7_gain_69 : decode cX7_gain 69 = .ok (.ishr, 1) := by decide +kernel
theorem dX7_gain_70 : decode cX7_gain 70 = .ok (.iconst 1, 1) := by decide +kernel
theorem dX7_gain_71 : decode cX7_gain 71 = .ok (.iand, 1) := by decide +kernel
theorem dX7_gain_72 : decode cX7_gain 72 = .ok (.iconst 1, 1) := by decide +kernel
theorem dX7_gain_73 : decode cX7_gain 73 = .ok (.if_icmp .ne 13, 3) := by decide +kernel
theorem dX7_gain_76 : decode cX7_gain 76 = .ok (.iload_n 2, 1) := by decide +kernel
theorem dX7_gain_77 : decode cX7_gain 77 = .ok (.aload_n 0, 1) := by decide +kernel
theorem dX7_gain_78 : decode cX7_gain 78 = .ok (.aload 4, 2) := by decide +kernel
theorem dX7_gain_80 : decode cX7_gain 80 = .ok (.iload_n 1, 1) := by decide +kernel
theorem dX7_gain_81 : decode cX7_gain 81 = .ok (.invokevirtual 225, 3) := by decide +kernel
theorem dX7_gain_84 : decode cX7_gain 84 = .ok (.iadd, 1) := by decide +kernel
theorem dX7_gain_85 : decode cX7_gain 85 = .ok (.istore_n 2, 1) := by decide +kernel
theorem dX7_gain_86 : decode cX7_gain 86 = .ok (.iinc 3 1, 3) := by decide +kernel
theorem dX7_gain_89 : decode cX7_gain 89 = .ok (.goto (-50), 3) := by decide +kernel
theorem dX7_gain_92 : decode cX7_gain 92 = .ok (.iload_n 2, 1) := by decide +kernel
theorem dX7_gain_93 : decode cX7_gain 93 = .ok (.ireturn, 1) := by decide +kernel
set_option maxRecDepth 20000 in
theorem ggX7_alike_X7_find : GoodIn wsX7_alike wsX7_find := goodIn_r _ [6, 7, 8, 9, 10, 11, 5, 12, 13, 14, 15, 16, 17, 18, 19, 20, 21, 22, 23, 24, 25, 26, 27, 28, 29, 30, 31, 32, 33, 34, 35, 36, 37, 38, 39, 40, 41, 42, 43, 44, 45, 46, 47, 48, 49, 64, 65, 66] (by decide +kernel) (by decide +kernel)
set_option maxRecDepth 20000 in
theorem gX7_alike_X7_find : GoodIn wsX7_alike (wsV RX7 78 RX7 yX7_find wsX7_find) := goodIn_app (goodIn_of _ (by decide +kernel)) ggX7_alike_X7_find
theorem dX7_alike_0 : decode cX7_alike 0 = .ok (.aload_n 0, 1) := by decide +kernel
theorem dX7_alike_1 : decode cX7_alike 1 = .ok (.iload_n 1, 1) := by decide +kernel
theorem dX7_alike_2 : decode cX7_alike 2 = .ok (.iload_n 2, 1) := by decide +kernel
theorem dX7_alike_3 : decode cX7_alike 3 = .ok (.invokevirtual 78, 3) := by decide +kernel
theorem dX7_alike_6 : decode cX7_alike 6 = .ok (.astore_n 3, 1) := by decide +kernel
theorem dX7_alike_7 : decode cX7_alike 7 = .ok (.aload_n 3, 1) := by decide +kernel
theorem dX7_alike_8 : decode cX7_alike 8 = .ok (.ifnonnull 5, 3) := by decide +kernel
theorem dX7_alike_11 : decode cX7_alike 11 = .ok (.iconst (-1), 1) := by decide +kernel
theorem dX7_alike_12 : decode cX7_alike 12 = .ok (.ireturn, 1) := by decide +kernel
theorem dX7_alike_13 : decode cX7_alike 13 = .ok (.aload_n 0, 1) := by decide +kernel
theorem dX7_alike_14 : decode cX7_alike 14 = .ok (.getfield 54, 3) := by decide +kernel
theorem dX7_alike_17 : decode cX7_alike 17 = .ok (.ifCond .ne 8, 3) := by decide +kernel
theorem dX7_alike_20 : decode cX7_alike 20 = .ok (.bipush (-3), 2) := by decide +kernel
theorem dX7_alike_22 : decode cX7_alike 22 = .ok (.goto 7, 3) := by decide +kernel
theorem dX7_alike_25 : decode cX7_alike 25 = .ok (.aload_n 3, 1) := by decide +kernel
theorem dX7_alike_26 : decode cX7_alike 26 = .ok (.getfield 153, 3) := by decide +kernel
theorem dX7_alike_29 : decode cX7_alike 29 = .ok (.ireturn, 1) := by decide +kernel
set_option maxRecDepth 20000 in
theorem ggX7_count_X7_teams : GoodIn wsX7_count wsX7_teams := goodIn_r _ [10, 11, 12, 13, 14, 15, 16, 17, 18, 19, 20, 21, 22, 23, 24, 25, 26, 27, 36, 37, 38] (by decide +kernel) (by decide +kernel)
set_option maxRecDepth 20000 in
theorem gX7_count_X7_teams : GoodIn wsX7_count (wsV RX7 58 RX7 yX7_teams wsX7_teams) := goodIn_app (goodIn_of _ (by decide +kernel)) ggX7_count_X7_teams
set_option maxRecDepth 20000 in
theorem ggX7_count_Jx4a65c_size_8abf5 : GoodIn wsX7_count wsJx4a65c_size_8abf5 := goodIn_r _ [16, 17, 36, 37, 38] (by decide +kernel) (by decide +kernel)
set_option maxRecDepth 20000 in
theorem gX7_count_Jx4a65c_size_8abf5 : GoodIn wsX7_count (wsV RX7 140 RJx4a65c yJx4a65c_size_8abf5 wsJx4a65c_size_8abf5) := goodIn_app (goodIn_of _ (by decide +kernel)) ggX7_count_Jx4a65c_size_8abf5
theorem dX7_count_0 : decode cX7_count 0 = .ok (.iload_n 1, 1) := by decide +kernel
theorem dX7_count_1 : decode cX7_count 1 = .ok (.tableswitch 78 0 5 #[39, 44, 49, 57, 62, 70], 39) := by decide +kernel
theorem dX7_count_40 : decode cX7_count 40 = .ok (.aload_n 0, 1) := by decide +kernel
theorem dX7_count_41 : decode cX7_count 41 = .ok (.invokevirtual 58, 3) := by decide +kernel
theorem dX7_count_44 : decode cX7_count 44 = .ok (.ireturn, 1) := by decide +kernel
theorem dX7_count_45 : decode cX7_count 45 = .ok (.aload_n 0, 1) := by decide +kernel
theorem dX7_count_46 : decode cX7_count 46 = .ok (.getfield 54, 3) := by decide +kernel
theorem dX7_count_49 : decode cX7_count 49 = .ok (.ireturn, 1) := by decide +kernel
theorem dX7_count_50 : decode cX7_count 50 = .ok (.aload_n 0, 1) := by decide +kernel
theorem dX7_count_51 : decode cX7_count 51 = .ok (.getfield 20, 3) := by decide +kernel
theorem dX7_count_54 : decode cX7_count 54 = .ok (.invokevirtual 140, 3) := by decide +kernel
theorem dX7_count_57 : decode cX7_count 57 = .ok (.ireturn, 1) := by decide +kernel
theorem dX7_count_58 : decode cX7_count 58 = .ok (.aload_n 0, 1) := by decide +kernel
theorem dX7_count_59 : decode cX7_count 59 = .ok (.getfield 129, 3) := by decide +kernel
theorem dX7_count_62 : decode cX7_count 62 = .ok (.ireturn, 1) := by decide +kernel
theorem dX7_count_63 : decode cX7_count 63 = .ok (.aload_n 0, 1) := by decide +kernel
theorem dX7_count_64 : decode cX7_count 64 = .ok (.getfield 26, 3) := by decide +kernel
theorem dX7_count_67 : decode cX7_count 67 = .ok (.getfield 71, 3) := by decide +kernel
theorem dX7_count_70 : decode cX7_count 70 = .ok (.ireturn, 1) := by decide +kernel
theorem dX7_count_71 : decode cX7_count 71 = .ok (.aload_n 0, 1) := by decide +kernel
theorem dX7_count_72 : decode cX7_count 72 = .ok (.getfield 40, 3) := by decide +kernel
theorem dX7_count_75 : decode cX7_count 75 = .ok (.getfield 229, 3) := by decide +kernel
theorem dX7_count_78 : decode cX7_count 78 = .ok (.ireturn, 1) := by decide +kernel
theorem dX7_count_79 : decode cX7_count 79 = .ok (.iconst (-1), 1) := by decide +kernel
theorem dX7_count_80 : decode cX7_count 80 = .ok (.ireturn, 1) := by decide +kernel
set_option maxRecDepth 20000 in
theorem ggX7_teams_Jx4a65c_size_8abf5 : GoodIn wsX7_teams wsJx4a65c_size_8abf5 := goodIn_r _ [6, 7, 18, 19, 20] (by decide +kernel) (by decide +kernel)
set_option maxRecDepth 20000 in
theorem gX7_teams_Jx4a65c_size_8abf5 : GoodIn wsX7_teams (wsV RX7 140 RJx4a65c yJx4a65c_size_8abf5 wsJx4a65c_size_8abf5) := goodIn_app (goodIn_of _ (by decide +kernel)) ggX7_teams_Jx4a65c_size_8abf5
theorem dX7_teams_0 : decode cX7_teams 0 = .ok (.aload_n 0, 1) := by decide +kernel
theorem dX7_teams_1 : decode cX7_teams 1 = .ok (.getfield 16, 3) := by decide +kernel
theorem dX7_teams_4 : decode cX7_teams 4 = .ok (.invokevirtual 140, 3) := by decide +kernel
theorem dX7_teams_7 : decode cX7_teams 7 = .ok (.iconst 3, 1) := by decide +kernel
theorem dX7_teams_8 : decode cX7_teams 8 = .ok (.idiv, 1) := by decide +kernel
theorem dX7_teams_9 : decode cX7_teams 9 = .ok (.ireturn, 1) := by decide +kernel
set_option maxRecDepth 20000 in
theorem ggX7_isTeam_X7_teams : GoodIn wsX7_isTeam wsX7_teams := goodIn_r _ [5, 6, 7, 8, 9, 10, 11, 12, 13, 14, 15, 16, 17, 18, 19, 20, 21, 22, 23, 24, 25] (by decide +kernel) (by decide +kernel)
set_option maxRecDepth 20000 in
theorem gX7_isTeam_X7_teams : GoodIn wsX7_isTeam (wsV RX7 58 RX7 yX7_teams wsX7_teams) := goodIn_app (goodIn_of _ (by decide +kernel)) ggX7_isTeam_X7_teams
theorem dX7_isTeam_0 : decode cX7_isTeam 0 = .ok (.iload_n 1, 1) := by decide +kernel
theorem dX7_isTeam_1 : decode cX7_isTeam 1 = .ok (.ifCond .lt 15, 3) := by decide +kernel
theorem dX7_isTeam_4 : decode cX7_isTeam 4 = .ok (.iload_n 1, 1) := by decide +kernel
theorem dX7_isTeam_5 : decode cX7_isTeam 5 = .ok (.aload_n 0, 1) := by decide +kernel
theorem dX7_isTeam_6 : decode cX7_isTeam 6 = .ok (.invokevirtual 58, 3) := by decide +kernel
theorem dX7_isTeam_9 : decode cX7_isTeam 9 = .ok (.if_icmp .ge 7, 3) := by decide +kernel
theorem dX7_isTeam_12 : decode cX7_isTeam 12 = .ok (.iconst 1, 1) := by decide +kernel
theorem dX7_isTeam_13 : decode cX7_isTeam 13 = .ok (.goto 4, 3) := by decide +kernel
theorem dX7_isTeam_16 : decode cX7_isTeam 16 = .ok (.iconst 0, 1) := by decide +kernel
theorem dX7_isTeam_17 : decode cX7_isTeam 17 = .ok (.ireturn, 1) := by decide +kernel
theorem dX7_wasRound_0 : decode cX7_wasRound 0 = .ok (.iload_n 1, 1) := by decide +kernel
theorem dX7_wasRound_1 : decode cX7_wasRound 1 = .ok (.ifCond .lt 15, 3) := by decide +kernel
theorem dX7_wasRound_4 : decode cX7_wasRound 4 = .ok (.iload_n 1, 1) := by decide +kernel
theorem dX7_wasRound_5 : decode cX7_wasRound 5 = .ok (.aload_n 0, 1) := by decide +kernel
theorem dX7_wasRound_6 : decode cX7_wasRound 6 = .ok (.getfield 54, 3) := by decide +kernel
theorem dX7_wasRound_9 : decode cX7_wasRound 9 = .ok (.if_icmp .ge 7, 3) := by decide +kernel
theorem dX7_wasRound_12 : decode cX7_wasRound 12 = .ok (.iconst 1, 1) := by decide +kernel
theorem dX7_wasRound_13 : decode cX7_wasRound 13 = .ok (.goto 4, 3) := by decide +kernel
theorem dX7_wasRound_16 : decode cX7_wasRound 16 = .ok (.iconst 0, 1) := by decide +kernel
theorem dX7_wasRound_17 : decode cX7_wasRound 17 = .ok (.ireturn, 1) := by decide +kernel
theorem dX7_isNumber_0 : decode cX7_isNumber 0 = .ok (.iload_n 0, 1) := by decide +kernel
theorem dX7_isNumber_1 : decode cX7_isNumber 1 = .ok (.ifCond .lt 14, 3) := by decide +kernel
theorem dX7_isNumber_4 : decode cX7_isNumber 4 = .ok (.iload_n 0, 1) := by decide +kernel
theorem dX7_isNumber_5 : decode cX7_isNumber 5 = .ok (.sipush 10000, 3) := by decide +kernel
theorem dX7_isNumber_8 : decode cX7_isNumber 8 = .ok (.if_icmp .ge 7, 3) := by decide +kernel
theorem dX7_isNumber_11 : decode cX7_isNumber 11 = .ok (.iconst 1, 1) := by decide +kernel
theorem dX7_isNumber_12 : decode cX7_isNumber 12 = .ok (.goto 4, 3) := by decide +kernel
theorem dX7_isNumber_15 : decode cX7_isNumber 15 = .ok (.iconst 0, 1) := by decide +kernel
theorem dX7_isNumber_16 : decode cX7_isNumber 16 = .ok (.ireturn, 1) := by decide +kernel
set_option maxRecDepth 20000 in
theorem ggX7_find_X7_isTeam : GoodIn wsX7_find wsX7_isTeam := goodIn_r _ [7, 8, 9, 10, 6, 11, 1, 12, 13, 14, 15, 16, 17, 35, 36, 37, 38, 39, 40, 41, 42, 43, 44, 45, 46, 47] (by decide +kernel) (by decide +kernel)
set_option maxRecDepth 20000 in
theorem gX7_find_X7_isTeam : GoodIn wsX7_find (wsV RX7 117 RX7 yX7_isTeam wsX7_isTeam) := goodIn_app (goodIn_of _ (by decide +kernel)) ggX7_find_X7_isTeam
set_option maxRecDepth 20000 in
theorem ggX7_find_Jx4a65c_get_915e3 : GoodIn wsX7_find wsJx4a65c_get_915e3 := goodIn_r _ [21, 17, 22, 23, 24, 25, 26, 27, 28, 29, 30, 31, 32, 15, 33, 34, 45, 46, 47] (by decide +kernel) (by decide +kernel)
set_option maxRecDepth 20000 in
theorem gX7_find_Jx4a65c_get_915e3 : GoodIn wsX7_find (wsV RX7 142 RJx4a65c yJx4a65c_get_915e3 wsJx4a65c_get_915e3) := goodIn_app (goodIn_of _ (by decide +kernel)) ggX7_find_Jx4a65c_get_915e3
theorem dX7_find_0 : decode cX7_find 0 = .ok (.aload_n 0, 1) := by decide +kernel
theorem dX7_find_1 : decode cX7_find 1 = .ok (.iload_n 1, 1) := by decide +kernel
theorem dX7_find_2 : decode cX7_find 2 = .ok (.invokevirtual 117, 3) := by decide +kernel
theorem dX7_find_5 : decode cX7_find 5 = .ok (.ifCond .eq 12, 3) := by decide +kernel
theorem dX7_find_8 : decode cX7_find 8 = .ok (.iload_n 2, 1) := by decide +kernel
theorem dX7_find_9 : decode cX7_find 9 = .ok (.ifCond .lt 8, 3) := by decide +kernel
theorem dX7_find_12 : decode cX7_find 12 = .ok (.iload_n 2, 1) := by decide +kernel
theorem dX7_find_13 : decode cX7_find 13 = .ok (.iconst 3, 1) := by decide +kernel
theorem dX7_find_14 : decode cX7_find 14 = .ok (.if_icmp .lt 5, 3) := by decide +kernel
theorem dX7_find_17 : decode cX7_find 17 = .ok (.aconst_null, 1) := by decide +kernel
theorem dX7_find_18 : decode cX7_find 18 = .ok (.areturn, 1) := by decide +kernel
theorem dX7_find_19 : decode cX7_find 19 = .ok (.aload_n 0, 1) := by decide +kernel
theorem dX7_find_20 : decode cX7_find 20 = .ok (.getfield 16, 3) := by decide +kernel
theorem dX7_find_23 : decode cX7_find 23 = .ok (.iload_n 1, 1) := by decide +kernel
theorem dX7_find_24 : decode cX7_find 24 = .ok (.iconst 3, 1) := by decide +kernel
theorem dX7_find_25 : decode cX7_find 25 = .ok (.imul, 1) := by decide +kernel
theorem dX7_find_26 : decode cX7_find 26 = .ok (.iload_n 2, 1) := by decide +kernel
theorem dX7_find_27 : decode cX7_find 27 = .ok (.iadd, 1) := by decide +kernel
theorem dX7_find_28 : decode cX7_find 28 = .ok (.invokevirtual 142, 3) := by decide +kernel
theorem dX7_find_31 : decode cX7_find 31 = .ok (.checkcast 62, 3) := by decide +kernel
theorem dX7_find_34 : decode cX7_find 34 = .ok (.areturn, 1) := by decide +kernel
theorem dX7_mix_0 : decode cX7_mix 0 = .ok (.aload_n 0, 1) := by decide +kernel
theorem dX7_mix_1 : decode cX7_mix 1 = .ok (.getfield 7, 3) := by decide +kernel
theorem dX7_mix_4 : decode cX7_mix 4 = .ok (.iconst 1, 1) := by decide +kernel
theorem dX7_mix_5 : decode cX7_mix 5 = .ok (.iaload, 1) := by decide +kernel
theorem dX7_mix_6 : decode cX7_mix 6 = .ok (.bipush 31, 2) := by decide +kernel
theorem dX7_mix_8 : decode cX7_mix 8 = .ok (.imul, 1) := by decide +kernel
theorem dX7_mix_9 : decode cX7_mix 9 = .ok (.iload_n 1, 1) := by decide +kernel
theorem dX7_mix_10 : decode cX7_mix 10 = .ok (.bipush 17, 2) := by decide +kernel
theorem dX7_mix_12 : decode cX7_mix 12 = .ok (.imul, 1) := by decide +kernel
theorem dX7_mix_13 : decode cX7_mix 13 = .ok (.iadd, 1) := by decide +kernel
theorem dX7_mix_14 : decode cX7_mix 14 = .ok (.aload_n 2, 1) := by decide +kernel
theorem dX7_mix_15 : decode cX7_mix 15 = .ok (.getfield 222, 3) := by decide +kernel
theorem dX7_mix_18 : decode cX7_mix 18 = .ok (.bipush 7, 2) := by decide +kernel
theorem dX7_mix_20 : decode cX7_mix 20 = .ok (.imul, 1) := by decide +kernel
theorem dX7_mix_21 : decode cX7_mix 21 = .ok (.iadd, 1) := by decide +kernel
theorem dX7_mix_22 : decode cX7_mix 22 = .ok (.aload_n 2, 1) := by decide +kernel
theorem dX7_mix_23 : decode cX7_mix 23 = .ok (.getfield 232, 3) := by decide +kernel
theorem dX7_mix_26 : decode cX7_mix 26 = .ok (.iconst 3, 1) := by decide +kernel
theorem dX7_mix_27 : decode cX7_mix 27 = .ok (.imul, 1) := by decide +kernel
theorem dX7_mix_28 : decode cX7_mix 28 = .ok (.iadd, 1) := by decide +kernel
theorem dX7_mix_29 : decode cX7_mix 29 = .ok (.sipush 997, 3) := by decide +kernel
theorem dX7_mix_32 : decode cX7_mix 32 = .ok (.irem, 1) := by decide +kernel
theorem dX7_mix_33 : decode cX7_mix 33 = .ok (.ireturn, 1) := by decide +kernel
theorem dX7_flagOf_0 : decode cX7_flagOf 0 = .ok (.iload_n 0, 1) := by decide +kernel
theorem dX7_flagOf_1 : decode cX7_flagOf 1 = .ok (.bipush 13, 2) := by decide +kernel
theorem dX7_flagOf_3 : decode cX7_flagOf 3 = .ok (.imul, 1) := by decide +kernel
theorem dX7_flagOf_4 : decode cX7_flagOf 4 = .ok (.sipush 1000, 3) := by decide +kernel
theorem dX7_flagOf_7 : decode cX7_flagOf 7 = .ok (.iadd, 1) := by decide +kernel
theorem dX7_flagOf_8 : decode cX7_flagOf 8 = .ok (.sipush 10000, 3) := by decide +kernel
theorem dX7_flagOf_11 : decode cX7_flagOf 11 = .ok (.irem, 1) := by decide +kernel
theorem dX7_flagOf_12 : decode cX7_flagOf 12 = .ok (.ireturn, 1) := by decide +kernel
set_option maxRecDepth 20000 in
theorem ggX7_writeChecks_X7_mix : GoodIn wsX7_writeChecks wsX7_mix := goodIn_r _ [9, 4, 70, 71, 72, 73, 74, 75, 76, 77, 78, 79, 80, 81, 82, 83, 84, 85, 86, 87, 88, 89, 90, 91, 92, 93] (by decide +kernel) (by decide +kernel)
set_option maxRecDepth 20000 in
theorem gX7_writeChecks_X7_mix : GoodIn wsX7_writeChecks (wsV RX7 175 RX7 yX7_mix wsX7_mix) := goodIn_app (goodIn_of _ (by decide +kernel)) ggX7_writeChecks_X7_mix
set_option maxRecDepth 20000 in
theorem ggX7_writeChecks_X7_checkNumber : GoodIn wsX7_writeChecks wsX7_checkNumber := goodIn_r _ [12, 13, 14, 8, 15] (by decide +kernel) (by decide +kernel)
set_option maxRecDepth 20000 in
theorem gX7_writeChecks_X7_checkNumber : GoodIn wsX7_writeChecks (va_wsS RX7 238 yX7_checkNumber wsX7_checkNumber) := goodIn_app (goodIn_of _ (by decide +kernel)) ggX7_writeChecks_X7_checkNumber
set_option maxRecDepth 20000 in
theorem ggX7_writeChecks_X1_deliver : GoodIn wsX7_writeChecks wsX1_deliver := goodIn_r _ [19, 20, 21, 22, 23, 24, 25, 26, 27, 28, 29, 30, 17, 31, 32, 33, 34, 35, 36, 37, 38, 39, 40, 41, 42, 43, 44, 45, 46, 47, 48, 49, 50, 51, 52, 53, 54, 55, 56, 57, 80, 81, 82, 83, 84, 85, 86, 87, 88, 89, 90, 91, 92, 93, 94, 95, 96, 97, 98, 99, 100, 101, 102] (by decide +kernel) (by decide +kernel)
set_option maxRecDepth 20000 in
theorem gX7_writeChecks_X1_deliver_n132 : GoodIn wsX7_writeChecks (wsX1_deliver) := ggX7_writeChecks_X1_deliver
set_option maxRecDepth 20000 in
theorem ggX7_writeChecks_X7_dueAnswer : GoodIn wsX7_writeChecks wsX7_dueAnswer := goodIn_r _ [61, 4, 1, 13, 14, 8, 15, 5, 6, 7, 9, 70, 71, 72, 73, 74, 75, 76, 77, 78, 79, 80, 81, 82, 83, 84, 85, 86, 87, 88, 89, 90, 91, 92, 93] (by decide +kernel) (by decide +kernel)
set_option maxRecDepth 20000 in
theorem gX7_writeChecks_X7_dueAnswer : GoodIn wsX7_writeChecks (wsV RX7 241 RX7 yX7_dueAnswer wsX7_dueAnswer) := goodIn_app (goodIn_of _ (by decide +kernel)) ggX7_writeChecks_X7_dueAnswer
set_option maxRecDepth 20000 in
theorem ggX7_writeChecks_X5_keepCheck : GoodIn wsX7_writeChecks wsX5_keepCheck := goodIn_r _ [65, 66, 67, 68, 69, 80, 81, 82, 83, 84, 85, 86, 87, 88, 89, 90, 91, 92, 93] (by decide +kernel) (by decide +kernel)
set_option maxRecDepth 20000 in
theorem gX7_writeChecks_X5_keepCheck_n245 : GoodIn wsX7_writeChecks (wsX5_keepCheck) := ggX7_writeChecks_X5_keepCheck
theorem dX7_writeChecks_0 : decode cX7_writeChecks 0 = .ok (.aload_n 0, 1) := by decide +kernel
theorem dX7_writeChecks_1 : decode cX7_writeChecks 1 = .ok (.aload_n 0, 1) := by decide +kernel
theorem dX7_writeChecks_2 : decode cX7_writeChecks 2 = .ok (.getfield 54, 3) := by decide +kernel
theorem dX7_writeChecks_5 : decode cX7_writeChecks 5 = .ok (.aload_n 1, 1) := by decide +kernel
theorem dX7_writeChecks_6 : decode cX7_writeChecks 6 = .ok (.invokevirtual 175, 3) := by decide +kernel
theorem dX7_writeChecks_9 : decode cX7_writeChecks 9 = .ok (.istore_n 2, 1) := by decide +kernel
theorem dX7_writeChecks_10 : decode cX7_writeChecks 10 = .ok (.iload_n 2, 1) := by decide +kernel
theorem dX7_writeChecks_11 : decode cX7_writeChecks 11 = .ok (.bipush 6, 2) := by decide +kernel
theorem dX7_writeChecks_13 : decode cX7_writeChecks 13 = .ok (.irem, 1) := by decide +kernel
theorem dX7_writeChecks_14 : decode cX7_writeChecks 14 = .ok (.istore_n 3, 1) := by decide +kernel
theorem dX7_writeChecks_15 : decode cX7_writeChecks 15 = .ok (.iconst 0, 1) := by decide +kernel
theorem dX7_writeChecks_16 : decode cX7_writeChecks 16 = .ok (.istore 4, 2) := by decide +kernel
theorem dX7_writeChecks_18 : decode cX7_writeChecks 18 = .ok (.iconst 1, 1) := by decide +kernel
theorem dX7_writeChecks_19 : decode cX7_writeChecks 19 = .ok (.istore 5, 2) := by decide +kernel
theorem dX7_writeChecks_21 : decode cX7_writeChecks 21 = .ok (.iconst 0, 1) := by decide +kernel
theorem dX7_writeChecks_22 : decode cX7_writeChecks 22 = .ok (.istore 6, 2) := by decide +kernel
theorem dX7_writeChecks_24 : decode cX7_writeChecks 24 = .ok (.iload 6, 2) := by decide +kernel
theorem dX7_writeChecks_26 : decode cX7_writeChecks 26 = .ok (.iconst 3, 1) := by decide +kernel
theorem dX7_writeChecks_27 : decode cX7_writeChecks 27 = .ok (.if_icmp .ge 132, 3) := by decide +kernel
theorem dX7_writeChecks_30 : decode cX7_writeChecks 30 = .ok (.getstatic 235, 3) := by decide +kernel
theorem dX7_writeChecks_33 : decode cX7_writeChecks 33 = .ok (.iload_n 3, 1) := by decide +kernel
theorem dX7_writeChecks_34 : decode cX7_writeChecks 34 = .ok (.iconst 3, 1) := by decide +kernel
theorem dX7_writeChecks_35 : decode cX7_writeChecks 35 = .ok (.imul, 1) := by decide +kernel
theorem dX7_writeChecks_36 : decode cX7_writeChecks 36 = .ok (.iload 6, 2) := by decide +kernel
theorem dX7_writeChecks_38 : decode cX7_writeChecks 38 = .ok (.iadd, 1) := by decide +kernel
theorem dX7_writeChecks_39 : decode cX7_writeChecks 39 = .ok (.iaload, 1) := by decide +kernel
theorem dX7_writeChecks_40 : decode cX7_writeChecks 40 = .ok (.istore 7, 2) := by decide +kernel
theorem dX7_writeChecks_42 : decode cX7_writeChecks 42 = .ok (.iload 7, 2) := by decide +kernel
theorem dX7_writeChecks_44 : decode cX7_writeChecks 44 = .ok (.iload_n 2, 1) := by decide +kernel
theorem dX7_writeChecks_45 : decode cX7_writeChecks 45 = .ok (.invokestatic 238, 3) := by decide +kernel
theorem dX7_writeChecks_48 : decode cX7_writeChecks 48 = .ok (.istore 8, 2) := by decide +kernel
theorem dX7_writeChecks_50 : decode cX7_writeChecks 50 = .ok (.aload_n 0, 1) := by decide +kernel
theorem dX7_writeChecks_51 : decode cX7_writeChecks 51 = .ok (.getfield 40, 3) := by decide +kernel
theorem dX7_writeChecks_54 : decode cX7_writeChecks 54 = .ok (.aload_n 1, 1) := by decide +kernel
theorem dX7_writeChecks_55 : decode cX7_writeChecks 55 = .ok (.iload 7, 2) := by decide +kernel
theorem dX7_writeChecks_57 : decode cX7_writeChecks 57 = .ok (.iconst 1, 1) := by decide +kernel
theorem dX7_writeChecks_58 : decode cX7_writeChecks 58 = .ok (.iadd, 1) := by decide +kernel
theorem dX7_writeChecks_59 : decode cX7_writeChecks 59 = .ok (.iload 8, 2) := by decide +kernel
theorem dX7_writeChecks_61 : decode cX7_writeChecks 61 = .ok (.aload_n 0, 1) := by decide +kernel
theorem dX7_writeChecks_62 : decode cX7_writeChecks 62 = .ok (.getfield 7, 3) := by decide +kernel
theorem dX7_writeChecks_65 : decode cX7_writeChecks 65 = .ok (.iconst 0, 1) := by decide +kernel
theorem dX7_writeChecks_66 : decode cX7_writeChecks 66 = .ok (.iaload, 1) := by decide +kernel
theorem dX7_writeChecks_67 : decode cX7_writeChecks 67 = .ok (.invokevirtual 132, 3) := by decide +kernel
