theorem dX10_open_28 : decode cX10_open 28 = .ok (.ireturn, 1) := by decide +kernel
set_option maxRecDepth 20000 in
theorem ggX10_hidden_X10_isGame : GoodIn wsX10_hidden wsX10_isGame := goodIn_r _ [5, 6, 7, 4, 8] (by decide +kernel) (by decide +kernel)
set_option maxRecDepth 20000 in
theorem gX10_hidden_X10_isGame : GoodIn wsX10_hidden (va_wsS RX10 252 yX10_isGame wsX10_isGame) := goodIn_app (goodIn_of _ (by decide +kernel)) ggX10_hidden_X10_isGame
set_option maxRecDepth 20000 in
theorem ggX10_hidden_X4_playHidden : GoodIn wsX10_hidden wsX4_playHidden := goodIn_r _ [13, 14, 15, 16, 17, 18, 19, 20, 21, 22, 23, 24, 25, 12, 26, 27, 28, 29, 30, 31, 32, 33, 34, 35, 36, 37, 38, 39, 40, 41, 42, 43, 44, 45, 46, 47, 48, 49, 50, 51, 52, 53, 54, 72, 73, 74, 75, 76, 77, 78, 79, 80] (by decide +kernel) (by decide +kernel)
set_option maxRecDepth 20000 in
theorem gX10_hidden_X4_playHidden : GoodIn wsX10_hidden (wsV RX10 262 RX4 yX4_playHidden wsX4_playHidden) := goodIn_app (goodIn_of _ (by decide +kernel)) ggX10_hidden_X4_playHidden
set_option maxRecDepth 20000 in
theorem ggX10_hidden_X4_result : GoodIn wsX10_hidden wsX4_result := goodIn_r _ [58, 15, 54, 16, 72, 73, 74, 75, 76, 77] (by decide +kernel) (by decide +kernel)
set_option maxRecDepth 20000 in
theorem gX10_hidden_X4_result : GoodIn wsX10_hidden (wsV RX10 259 RX4 yX4_result wsX4_result) := goodIn_app (goodIn_of _ (by decide +kernel)) ggX10_hidden_X4_result
theorem dX10_hidden_0 : decode cX10_hidden 0 = .ok (.iload_n 1, 1) := by decide +kernel
theorem dX10_hidden_1 : decode cX10_hidden 1 = .ok (.iload_n 2, 1) := by decide +kernel
theorem dX10_hidden_2 : decode cX10_hidden 2 = .ok (.iload_n 3, 1) := by decide +kernel
theorem dX10_hidden_3 : decode cX10_hidden 3 = .ok (.invokestatic 252, 3) := by decide +kernel
theorem dX10_hidden_6 : decode cX10_hidden 6 = .ok (.ifCond .ne 5, 3) := by decide +kernel
theorem dX10_hidden_9 : decode cX10_hidden 9 = .ok (.iconst (-1), 1) := by decide +kernel
theorem dX10_hidden_10 : decode cX10_hidden 10 = .ok (.ireturn, 1) := by decide +kernel
theorem dX10_hidden_11 : decode cX10_hidden 11 = .ok (.aload_n 0, 1) := by decide +kernel
theorem dX10_hidden_12 : decode cX10_hidden 12 = .ok (.getfield 88, 3) := by decide +kernel
theorem dX10_hidden_15 : decode cX10_hidden 15 = .ok (.iload_n 1, 1) := by decide +kernel
theorem dX10_hidden_16 : decode cX10_hidden 16 = .ok (.iload_n 2, 1) := by decide +kernel
theorem dX10_hidden_17 : decode cX10_hidden 17 = .ok (.invokevirtual 262, 3) := by decide +kernel
theorem dX10_hidden_20 : decode cX10_hidden 20 = .ok (.aload_n 0, 1) := by decide +kernel
theorem dX10_hidden_21 : decode cX10_hidden 21 = .ok (.getfield 88, 3) := by decide +kernel
theorem dX10_hidden_24 : decode cX10_hidden 24 = .ok (.iload_n 3, 1) := by decide +kernel
theorem dX10_hidden_25 : decode cX10_hidden 25 = .ok (.invokevirtual 259, 3) := by decide +kernel
theorem dX10_hidden_28 : decode cX10_hidden 28 = .ok (.ireturn, 1) := by decide +kernel
set_option maxRecDepth 20000 in
theorem ggX10_keep_X5_copyFrom : GoodIn wsX10_keep wsX5_copyFrom := goodIn_r _ [8, 9, 10, 11, 12, 13, 14, 15, 29, 30, 31] (by decide +kernel) (by decide +kernel)
set_option maxRecDepth 20000 in
theorem gX10_keep_X5_copyFrom : GoodIn wsX10_keep (wsV RX10 265 RX5 yX5_copyFrom wsX5_copyFrom) := goodIn_app (goodIn_of _ (by decide +kernel)) ggX10_keep_X5_copyFrom
theorem dX10_keep_0 : decode cX10_keep 0 = .ok (.aload_n 0, 1) := by decide +kernel
theorem dX10_keep_1 : decode cX10_keep 1 = .ok (.getfield 96, 3) := by decide +kernel
theorem dX10_keep_4 : decode cX10_keep 4 = .ok (.iconst 2, 1) := by decide +kernel
theorem dX10_keep_5 : decode cX10_keep 5 = .ok (.if_icmp .lt 6, 3) := by decide +kernel
theorem dX10_keep_8 : decode cX10_keep 8 = .ok (.bipush (-3), 2) := by decide +kernel
theorem dX10_keep_10 : decode cX10_keep 10 = .ok (.ireturn, 1) := by decide +kernel
theorem dX10_keep_11 : decode cX10_keep 11 = .ok (.aload_n 0, 1) := by decide +kernel
theorem dX10_keep_12 : decode cX10_keep 12 = .ok (.getfield 92, 3) := by decide +kernel
theorem dX10_keep_15 : decode cX10_keep 15 = .ok (.aload_n 0, 1) := by decide +kernel
theorem dX10_keep_16 : decode cX10_keep 16 = .ok (.getfield 96, 3) := by decide +kernel
theorem dX10_keep_19 : decode cX10_keep 19 = .ok (.aaload, 1) := by decide +kernel
theorem dX10_keep_20 : decode cX10_keep 20 = .ok (.aload_n 0, 1) := by decide +kernel
theorem dX10_keep_21 : decode cX10_keep 21 = .ok (.getfield 63, 3) := by decide +kernel
theorem dX10_keep_24 : decode cX10_keep 24 = .ok (.invokevirtual 265, 3) := by decide +kernel
theorem dX10_keep_27 : decode cX10_keep 27 = .ok (.aload_n 0, 1) := by decide +kernel
theorem dX10_keep_28 : decode cX10_keep 28 = .ok (.dup, 1) := by decide +kernel
theorem dX10_keep_29 : decode cX10_keep 29 = .ok (.getfield 96, 3) := by decide +kernel
theorem dX10_keep_32 : decode cX10_keep 32 = .ok (.iconst 1, 1) := by decide +kernel
theorem dX10_keep_33 : decode cX10_keep 33 = .ok (.iadd, 1) := by decide +kernel
theorem dX10_keep_34 : decode cX10_keep 34 = .ok (.putfield 96, 3) := by decide +kernel
theorem dX10_keep_37 : decode cX10_keep 37 = .ok (.aload_n 0, 1) := by decide +kernel
theorem dX10_keep_38 : decode cX10_keep 38 = .ok (.getfield 96, 3) := by decide +kernel
theorem dX10_keep_41 : decode cX10_keep 41 = .ok (.ireturn, 1) := by decide +kernel
set_option maxRecDepth 20000 in
theorem ggX10_back_X5_copyFrom : GoodIn wsX10_back wsX5_copyFrom := goodIn_r _ [8, 9, 10, 11, 12, 13, 14, 15, 29, 30, 31] (by decide +kernel) (by decide +kernel)
set_option maxRecDepth 20000 in
theorem gX10_back_X5_copyFrom : GoodIn wsX10_back (wsV RX10 265 RX5 yX5_copyFrom wsX5_copyFrom) := goodIn_app (goodIn_of _ (by decide +kernel)) ggX10_back_X5_copyFrom
theorem dX10_back_0 : decode cX10_back 0 = .ok (.aload_n 0, 1) := by decide +kernel
theorem dX10_back_1 : decode cX10_back 1 = .ok (.getfield 96, 3) := by decide +kernel
theorem dX10_back_4 : decode cX10_back 4 = .ok (.ifCond .gt 6, 3) := by decide +kernel
theorem dX10_back_7 : decode cX10_back 7 = .ok (.bipush (-2), 2) := by decide +kernel
theorem dX10_back_9 : decode cX10_back 9 = .ok (.ireturn, 1) := by decide +kernel
theorem dX10_back_10 : decode cX10_back 10 = .ok (.aload_n 0, 1) := by decide +kernel
theorem dX10_back_11 : decode cX10_back 11 = .ok (.dup, 1) := by decide +kernel
theorem dX10_back_12 : decode cX10_back 12 = .ok (.getfield 96, 3) := by decide +kernel
theorem dX10_back_15 : decode cX10_back 15 = .ok (.iconst 1, 1) := by decide +kernel
theorem dX10_back_16 : decode cX10_back 16 = .ok (.isub, 1) := by decide +kernel
theorem dX10_back_17 : decode cX10_back 17 = .ok (.putfield 96, 3) := by decide +kernel
theorem dX10_back_20 : decode cX10_back 20 = .ok (.aload_n 0, 1) := by decide +kernel
theorem dX10_back_21 : decode cX10_back 21 = .ok (.getfield 63, 3) := by decide +kernel
theorem dX10_back_24 : decode cX10_back 24 = .ok (.aload_n 0, 1) := by decide +kernel
theorem dX10_back_25 : decode cX10_back 25 = .ok (.getfield 92, 3) := by decide +kernel
theorem dX10_back_28 : decode cX10_back 28 = .ok (.aload_n 0, 1) := by decide +kernel
theorem dX10_back_29 : decode cX10_back 29 = .ok (.getfield 96, 3) := by decide +kernel
theorem dX10_back_32 : decode cX10_back 32 = .ok (.aaload, 1) := by decide +kernel
theorem dX10_back_33 : decode cX10_back 33 = .ok (.invokevirtual 265, 3) := by decide +kernel
theorem dX10_back_36 : decode cX10_back 36 = .ok (.aload_n 0, 1) := by decide +kernel
theorem dX10_back_37 : decode cX10_back 37 = .ok (.getfield 96, 3) := by decide +kernel
theorem dX10_back_40 : decode cX10_back 40 = .ok (.ireturn, 1) := by decide +kernel
set_option maxRecDepth 20000 in
theorem ggX10_count_X5_howManyTold : GoodIn wsX10_count wsX5_howManyTold := goodIn_r _ [9, 10, 39, 40, 41] (by decide +kernel) (by decide +kernel)
set_option maxRecDepth 20000 in
theorem gX10_count_X5_howManyTold : GoodIn wsX10_count (wsV RX10 268 RX5 yX5_howManyTold wsX5_howManyTold) := goodIn_app (goodIn_of _ (by decide +kernel)) ggX10_count_X5_howManyTold
theorem dX10_count_0 : decode cX10_count 0 = .ok (.iload_n 1, 1) := by decide +kernel
theorem dX10_count_1 : decode cX10_count 1 = .ok (.tableswitch 84 0 5 #[39, 47, 55, 63, 71, 79], 39) := by decide +kernel
theorem dX10_count_40 : decode cX10_count 40 = .ok (.aload_n 0, 1) := by decide +kernel
theorem dX10_count_41 : decode cX10_count 41 = .ok (.getfield 32, 3) := by decide +kernel
theorem dX10_count_44 : decode cX10_count 44 = .ok (.getfield 217, 3) := by decide +kernel
theorem dX10_count_47 : decode cX10_count 47 = .ok (.ireturn, 1) := by decide +kernel
theorem dX10_count_48 : decode cX10_count 48 = .ok (.aload_n 0, 1) := by decide +kernel
theorem dX10_count_49 : decode cX10_count 49 = .ok (.getfield 32, 3) := by decide +kernel
theorem dX10_count_52 : decode cX10_count 52 = .ok (.getfield 122, 3) := by decide +kernel
theorem dX10_count_55 : decode cX10_count 55 = .ok (.ireturn, 1) := by decide +kernel
theorem dX10_count_56 : decode cX10_count 56 = .ok (.aload_n 0, 1) := by decide +kernel
theorem dX10_count_57 : decode cX10_count 57 = .ok (.getfield 32, 3) := by decide +kernel
theorem dX10_count_60 : decode cX10_count 60 = .ok (.getfield 131, 3) := by decide +kernel
theorem dX10_count_63 : decode cX10_count 63 = .ok (.ireturn, 1) := by decide +kernel
theorem dX10_count_64 : decode cX10_count 64 = .ok (.aload_n 0, 1) := by decide +kernel
theorem dX10_count_65 : decode cX10_count 65 = .ok (.getfield 10, 3) := by decide +kernel
theorem dX10_count_68 : decode cX10_count 68 = .ok (.getfield 111, 3) := by decide +kernel
theorem dX10_count_71 : decode cX10_count 71 = .ok (.ireturn, 1) := by decide +kernel
theorem dX10_count_72 : decode cX10_count 72 = .ok (.aload_n 0, 1) := by decide +kernel
theorem dX10_count_73 : decode cX10_count 73 = .ok (.getfield 63, 3) := by decide +kernel
theorem dX10_count_76 : decode cX10_count 76 = .ok (.invokevirtual 268, 3) := by decide +kernel
theorem dX10_count_79 : decode cX10_count 79 = .ok (.ireturn, 1) := by decide +kernel
theorem dX10_count_80 : decode cX10_count 80 = .ok (.aload_n 0, 1) := by decide +kernel
theorem dX10_count_81 : decode cX10_count 81 = .ok (.getfield 96, 3) := by decide +kernel
theorem dX10_count_84 : decode cX10_count 84 = .ok (.ireturn, 1) := by decide +kernel
theorem dX10_count_85 : decode cX10_count 85 = .ok (.iconst (-1), 1) := by decide +kernel
theorem dX10_count_86 : decode cX10_count 86 = .ok (.ireturn, 1) := by decide +kernel
theorem dX10_within_0 : decode cX10_within 0 = .ok (.iload_n 0, 1) := by decide +kernel
theorem dX10_within_1 : decode cX10_within 1 = .ok (.iload_n 1, 1) := by decide +kernel
theorem dX10_within_2 : decode cX10_within 2 = .ok (.if_icmp .lt 12, 3) := by decide +kernel
theorem dX10_within_5 : decode cX10_within 5 = .ok (.iload_n 0, 1) := by decide +kernel
theorem dX10_within_6 : decode cX10_within 6 = .ok (.iload_n 2, 1) := by decide +kernel
theorem dX10_within_7 : decode cX10_within 7 = .ok (.if_icmp .gt 7, 3) := by decide +kernel
theorem dX10_within_10 : decode cX10_within 10 = .ok (.iconst 1, 1) := by decide +kernel
theorem dX10_within_11 : decode cX10_within 11 = .ok (.goto 4, 3) := by decide +kernel
theorem dX10_within_14 : decode cX10_within 14 = .ok (.iconst 0, 1) := by decide +kernel
theorem dX10_within_15 : decode cX10_within 15 = .ok (.ireturn, 1) := by decide +kernel
set_option maxRecDepth 20000 in
theorem ggX10_isCorner_X10_within : GoodIn wsX10_isCorner wsX10_within := goodIn_r _ [4] (by decide +kernel) (by decide +kernel)
set_option maxRecDepth 20000 in
theorem gX10_isCorner_X10_within : GoodIn wsX10_isCorner (va_wsS RX10 103 yX10_within wsX10_within) := goodIn_app (goodIn_of _ (by decide +kernel)) ggX10_isCorner_X10_within
theorem dX10_isCorner_0 : decode cX10_isCorner 0 = .ok (.iload_n 0, 1) := by decide +kernel
theorem dX10_isCorner_1 : decode cX10_isCorner 1 = .ok (.iconst 0, 1) := by decide +kernel
theorem dX10_isCorner_2 : decode cX10_isCorner 2 = .ok (.iconst 1, 1) := by decide +kernel
theorem dX10_isCorner_3 : decode cX10_isCorner 3 = .ok (.invokestatic 103, 3) := by decide +kernel
theorem dX10_isCorner_6 : decode cX10_isCorner 6 = .ok (.ireturn, 1) := by decide +kernel
set_option maxRecDepth 20000 in
theorem ggX10_isRule_X10_within : GoodIn wsX10_isRule wsX10_within := goodIn_r _ [4] (by decide +kernel) (by decide +kernel)
set_option maxRecDepth 20000 in
theorem gX10_isRule_X10_within : GoodIn wsX10_isRule (va_wsS RX10 103 yX10_within wsX10_within) := goodIn_app (goodIn_of _ (by decide +kernel)) ggX10_isRule_X10_within
theorem dX10_isRule_0 : decode cX10_isRule 0 = .ok (.iload_n 0, 1) := by decide +kernel
theorem dX10_isRule_1 : decode cX10_isRule 1 = .ok (.iconst 0, 1) := by decide +kernel
theorem dX10_isRule_2 : decode cX10_isRule 2 = .ok (.iconst 3, 1) := by decide +kernel
theorem dX10_isRule_3 : decode cX10_isRule 3 = .ok (.invokestatic 103, 3) := by decide +kernel
theorem dX10_isRule_6 : decode cX10_isRule 6 = .ok (.ireturn, 1) := by decide +kernel
set_option maxRecDepth 20000 in
theorem ggX10_isName_X10_within : GoodIn wsX10_isName wsX10_within := goodIn_r _ [4] (by decide +kernel) (by decide +kernel)
set_option maxRecDepth 20000 in
theorem gX10_isName_X10_within : GoodIn wsX10_isName (va_wsS RX10 103 yX10_within wsX10_within) := goodIn_app (goodIn_of _ (by decide +kernel)) ggX10_isName_X10_within
theorem dX10_isName_0 : decode cX10_isName 0 = .ok (.iload_n 0, 1) := by decide +kernel
theorem dX10_isName_1 : decode cX10_isName 1 = .ok (.iconst 0, 1) := by decide +kernel
theorem dX10_isName_2 : decode cX10_isName 2 = .ok (.iconst 5, 1) := by decide +kernel
theorem dX10_isName_3 : decode cX10_isName 3 = .ok (.invokestatic 103, 3) := by decide +kernel
theorem dX10_isName_6 : decode cX10_isName 6 = .ok (.ireturn, 1) := by decide +kernel
set_option maxRecDepth 20000 in
theorem ggX10_isToldSum_X10_within : GoodIn wsX10_isToldSum wsX10_within := goodIn_r _ [4] (by decide +kernel) (by decide +kernel)
set_option maxRecDepth 20000 in
theorem gX10_isToldSum_X10_within : GoodIn wsX10_isToldSum (va_wsS RX10 103 yX10_within wsX10_within) := goodIn_app (goodIn_of _ (by decide +kernel)) ggX10_isToldSum_X10_within
theorem dX10_isToldSum_0 : decode cX10_isToldSum 0 = .ok (.iload_n 0, 1) := by decide +kernel
theorem dX10_isToldSum_1 : decode cX10_isToldSum 1 = .ok (.iconst 0, 1) := by decide +kernel
theorem dX10_isToldSum_2 : decode cX10_isToldSum 2 = .ok (.sipush 999, 3) := by decide +kernel
theorem dX10_isToldSum_5 : decode cX10_isToldSum 5 = .ok (.invokestatic 103, 3) := by decide +kernel
theorem dX10_isToldSum_8 : decode cX10_isToldSum 8 = .ok (.ireturn, 1) := by decide +kernel
set_option maxRecDepth 20000 in
theorem ggX10_isGame_X10_within : GoodIn wsX10_isGame wsX10_within := goodIn_r _ [4] (by decide +kernel) (by decide +kernel)
set_option maxRecDepth 20000 in
theorem gX10_isGame_X10_within : GoodIn wsX10_isGame (va_wsS RX10 103 yX10_within wsX10_within) := goodIn_app (goodIn_of _ (by decide +kernel)) ggX10_isGame_X10_within
theorem dX10_isGame_0 : decode cX10_isGame 0 = .ok (.iload_n 0, 1) := by decide +kernel
theorem dX10_isGame_1 : decode cX10_isGame 1 = .ok (.iconst 1, 1) := by decide +kernel
theorem dX10_isGame_2 : decode cX10_isGame 2 = .ok (.bipush 12, 2) := by decide +kernel
theorem dX10_isGame_4 : decode cX10_isGame 4 = .ok (.invokestatic 103, 3) := by decide +kernel
theorem dX10_isGame_7 : decode cX10_isGame 7 = .ok (.ifCond .eq 27, 3) := by decide +kernel
theorem dX10_isGame_10 : decode cX10_isGame 10 = .ok (.iload_n 1, 1) := by decide +kernel
theorem dX10_isGame_11 : decode cX10_isGame 11 = .ok (.bipush (-12), 2) := by decide +kernel
theorem dX10_isGame_13 : decode cX10_isGame 13 = .ok (.bipush 12, 2) := by decide +kernel
theorem dX10_isGame_15 : decode cX10_isGame 15 = .ok (.invokestatic 103, 3) := by decide +kernel
theorem dX10_isGame_18 : decode cX10_isGame 18 = .ok (.ifCond .eq 16, 3) := by decide +kernel
theorem dX10_isGame_21 : decode cX10_isGame 21 = .ok (.iload_n 2, 1) := by decide +kernel
theorem dX10_isGame_22 : decode cX10_isGame 22 = .ok (.iconst 0, 1) := by decide +kernel
theorem dX10_isGame_23 : decode cX10_isGame 23 = .ok (.iconst 2, 1) := by decide +kernel
theorem dX10_isGame_24 : decode cX10_isGame 24 = .ok (.invokestatic 103, 3) := by decide +kernel
theorem dX10_isGame_27 : decode cX10_isGame 27 = .ok (.ifCond .eq 7, 3) := by decide +kernel
theorem dX10_isGame_30 : decode cX10_isGame 30 = .ok (.iconst 1, 1) := by decide +kernel
theorem dX10_isGame_31 : decode cX10_isGame 31 = .ok (.goto 4, 3) := by decide +kernel
theorem dX10_isGame_34 : decode cX10_isGame 34 = .ok (.iconst 0, 1) := by decide +kernel
theorem dX10_isGame_35 : decode cX10_isGame 35 = .ok (.ireturn, 1) := by decide +kernel
set_option maxRecDepth 20000 in
theorem ggX10_isJudge_X10_within : GoodIn wsX10_isJudge wsX10_within := goodIn_r _ [5] (by decide +kernel) (by decide +kernel)
set_option maxRecDepth 20000 in
theorem gX10_isJudge_X10_within : GoodIn wsX10_isJudge (va_wsS RX10 103 yX10_within wsX10_within) := goodIn_app (goodIn_of _ (by decide +kernel)) ggX10_isJudge_X10_within
theorem dX10_isJudge_0 : decode cX10_isJudge 0 = .ok (.iload_n 1, 1) := by decide +kernel
theorem dX10_isJudge_1 : decode cX10_isJudge 1 = .ok (.iconst 0, 1) := by decide +kernel
theorem dX10_isJudge_2 : decode cX10_isJudge 2 = .ok (.aload_n 0, 1) := by decide +kernel
theorem dX10_isJudge_3 : decode cX10_isJudge 3 = .ok (.getfield 32, 3) := by decide +kernel
theorem dX10_isJudge_6 : decode cX10_isJudge 6 = .ok (.getfield 122, 3) := by decide +kernel
theorem dX10_isJudge_9 : decode cX10_isJudge 9 = .ok (.iconst 1, 1) := by decide +kernel
theorem dX10_isJudge_10 : decode cX10_isJudge 10 = .ok (.isub, 1) := by decide +kernel
theorem dX10_isJudge_11 : decode cX10_isJudge 11 = .ok (.invokestatic 103, 3) := by decide +kernel
theorem dX10_isJudge_14 : decode cX10_isJudge 14 = .ok (.ireturn, 1) := by decide +kernel
set_option maxRecDepth 20000 in
theorem ggX10_isScored_X10_isJudge : GoodIn wsX10_isScored wsX10_isJudge := goodIn_r _ [6, 1, 7, 8, 5, 9, 10, 11, 12, 13, 14, 15, 16, 17, 18, 19, 20, 21, 22, 23, 24, 25, 26, 27, 28, 29, 30, 31, 32, 33, 34, 35] (by decide +kernel) (by decide +kernel)
set_option maxRecDepth 20000 in
theorem gX10_isScored_X10_isJudge : GoodIn wsX10_isScored (wsV RX10 167 RX10 yX10_isJudge wsX10_isJudge) := goodIn_app (goodIn_of _ (by decide +kernel)) ggX10_isScored_X10_isJudge
set_option maxRecDepth 20000 in
theorem ggX10_isScored_X10_within : GoodIn wsX10_isScored wsX10_within := goodIn_r _ [9] (by decide +kernel) (by decide +kernel)
set_option maxRecDepth 20000 in
theorem gX10_isScored_X10_within : GoodIn wsX10_isScored (va_wsS RX10 103 yX10_within wsX10_within) := goodIn_app (goodIn_of _ (by decide +kernel)) ggX10_isScored_X10_within
theorem dX10_isScored_0 : decode cX10_isScored 0 = .ok (.aload_n 0, 1) := by decide +kernel
theorem dX10_isScored_1 : decode cX10_isScored 1 = .ok (.iload_n 1, 1) := by decide +kernel
theorem dX10_isScored_2 : decode cX10_isScored 2 = .ok (.invokevirtual 167, 3) := by decide +kernel
theorem dX10_isScored_5 : decode cX10_isScored 5 = .ok (.ifCond .eq 24, 3) := by decide +kernel
theorem dX10_isScored_8 : decode cX10_isScored 8 = .ok (.iload_n 2, 1) := by decide +kernel
theorem dX10_isScored_9 : decode cX10_isScored 9 = .ok (.iconst 0, 1) := by decide +kernel
theorem dX10_isScored_10 : decode cX10_isScored 10 = .ok (.aload_n 0, 1) := by decide +kernel
theorem dX10_isScored_11 : decode cX10_isScored 11 = .ok (.getfield 32, 3) := by decide +kernel
theorem dX10_isScored_14 : decode cX10_isScored 14 = .ok (.getfield 217, 3) := by decide +kernel
theorem dX10_isScored_17 : decode cX10_isScored 17 = .ok (.iconst 1, 1) := by decide +kernel
theorem dX10_isScored_18 : decode cX10_isScored 18 = .ok (.isub, 1) := by decide +kernel
theorem dX10_isScored_19 : decode cX10_isScored 19 = .ok (.invokestatic 103, 3) := by decide +kernel
theorem dX10_isScored_22 : decode cX10_isScored 22 = .ok (.ifCond .eq 7, 3) := by decide +kernel
theorem dX10_isScored_25 : decode cX10_isScored 25 = .ok (.iconst 1, 1) := by decide +kernel
theorem dX10_isScored_26 : decode cX10_isScored 26 = .ok (.goto 4, 3) := by decide +kernel
theorem dX10_isScored_29 : decode cX10_isScored 29 = .ok (.iconst 0, 1) := by decide +kernel
theorem dX10_isScored_30 : decode cX10_isScored 30 = .ok (.ireturn, 1) := by decide +kernel
set_option maxRecDepth 20000 in
theorem ggX10_areThree_X10_isJudge : GoodIn wsX10_areThree wsX10_isJudge := goodIn_r _ [5, 6, 7, 8, 4, 9, 10, 11, 12, 13, 14, 15, 16, 17, 18, 19, 20, 21, 22, 23, 24, 25, 26, 27, 28, 29, 30, 31, 32, 33, 34, 35] (by decide +kernel) (by decide +kernel)
set_option maxRecDepth 20000 in
theorem gX10_areThree_X10_isJudge : GoodIn wsX10_areThree (wsV RX10 167 RX10 yX10_isJudge wsX10_isJudge) := goodIn_app (goodIn_of _ (by decide +kernel)) ggX10_areThree_X10_isJudge
theorem dX10_areThree_0 : decode cX10_areThree 0 = .ok (.aload_n 0, 1) := by decide +kernel
theorem dX10_areThree_1 : decode cX10_areThree 1 = .ok (.iload_n 1, 1) := by decide +kernel
theorem dX10_areThree_2 : decode cX10_areThree 2 = .ok (.invokevirtual 167, 3) := by decide +kernel
theorem dX10_areThree_5 : decode cX10_areThree 5 = .ok (.ifCond .eq 38, 3) := by decide +kernel
theorem dX10_areThree_8 : decode cX10_areThree 8 = .ok (.aload_n 0, 1) := by decide +kernel
theorem dX10_areThree_9 : decode cX10_areThree 9 = .ok (.iload_n 2, 1) := by decide +kernel
theorem dX10_areThree_10 : decode cX10_areThree 10 = .ok (.invokevirtual 167, 3) := by decide +kernel
theorem dX10_areThree_13 : decode cX10_areThree 13 = .ok (.ifCond .eq 30, 3) := by decide +kernel
theorem dX10_areThree_16 : decode cX10_areThree 16 = .ok (.aload_n 0, 1) := by decide +kernel
theorem dX10_areThree_17 : decode cX10_areThree 17 = .ok (.iload_n 3, 1) := by decide +kernel
theorem dX10_areThree_18 : decode cX10_areThree 18 = .ok (.invokevirtual 167, 3) := by decide +kernel
theorem dX10_areThree_21 : decode cX10_areThree 21 = .ok (.ifCond .eq 22, 3) := by decide +kernel
theorem dX10_areThree_24 : decode cX10_areThree 24 = .ok (.iload_n 1, 1) := by decide +kernel
theorem dX10_areThree_25 : decode cX10_areThree 25 = .ok (.iload_n 2, 1) := by decide +kernel
theorem dX10_areThree_26 : decode cX10_areThree 26 = .ok (.if_icmp .eq 17, 3) := by decide +kernel
theorem dX10_areThree_29 : decode cX10_areThree 29 = .ok (.iload_n 1, 1) := by decide +kernel
theorem dX10_areThree_30 : decode cX10_areThree 30 = .ok (.iload_n 3, 1) := by decide +kernel
theorem dX10_areThree_31 : decode cX10_areThree 31 = .ok (.if_icmp .eq 12, 3) := by decide +kernel
theorem dX10_areThree_34 : decode cX10_areThree 34 = .ok (.iload_n 2, 1) := by decide +kernel
theorem dX10_areThree_35 : decode cX10_areThree 35 = .ok (.iload_n 3, 1) := by decide +kernel
theorem dX10_areThree_36 : decode cX10_areThree 36 = .ok (.if_icmp .eq 7, 3) := by decide +kernel
theorem dX10_areThree_39 : decode cX10_areThree 39 = .ok (.iconst 1, 1) := by decide +kernel
theorem dX10_areThree_40 : decode cX10_areThree 40 = .ok (.goto 4, 3) := by decide +kernel
theorem dX10_areThree_43 : decode cX10_areThree 43 = .ok (.iconst 0, 1) := by decide +kernel
theorem dX10_areThree_44 : decode cX10_areThree 44 = .ok (.ireturn, 1) := by decide +kernel
theorem dX10_signOf_0 : decode cX10_signOf 0 = .ok (.iload_n 0, 1) := by decide +kernel
theorem dX10_signOf_1 : decode cX10_signOf 1 = .ok (.ifCond .ne 5, 3) := by decide +kernel
theorem dX10_signOf_4 : decode cX10_signOf 4 = .ok (.iconst 0, 1) := by decide +kernel
theorem dX10_signOf_5 : decode cX10_signOf 5 = .ok (.ireturn, 1) := by decide +kernel
theorem dX10_signOf_6 : decode cX10_signOf 6 = .ok (.iload_n 0, 1) := by decide +kernel
theorem dX10_signOf_7 : decode cX10_signOf 7 = .ok (.ifCond .le 7, 3) := by decide +kernel
theorem dX10_signOf_10 : decode cX10_signOf 10 = .ok (.iconst 1, 1) := by decide +kernel
theorem dX10_signOf_11 : decode cX10_signOf 11 = .ok (.goto 4, 3) := by decide +kernel
theorem dX10_signOf_14 : decode cX10_signOf 14 = .ok (.iconst (-1), 1) := by decide +kernel
theorem dX10_signOf_15 : decode cX10_signOf 15 = .ok (.ireturn, 1) := by decide +kernel
theorem dX10_clip_0 : decode cX10_clip 0 = .ok (.iload_n 1, 1) := by decide +kernel
theorem dX10_clip_1 : decode cX10_clip 1 = .ok (.ineg, 1) := by decide +kernel
theorem dX10_clip_2 : decode cX10_clip 2 = .ok (.iload_n 1, 1) := by decide +kernel
theorem dX10_clip_3 : decode cX10_clip 3 = .ok (.iload_n 0, 1) := by decide +kernel
theorem dX10_clip_4 : decode cX10_clip 4 = .ok (.invokestatic 271, 3) := by decide +kernel
theorem dX10_clip_7 : decode cX10_clip 7 = .ok (.invokestatic 276, 3) := by decide +kernel
theorem dX10_clip_10 : decode cX10_clip 10 = .ok (.ireturn, 1) := by decide +kernel
set_option maxRecDepth 20000 in
theorem ggX11_init_X11_noFight : GoodIn wsX11_init wsX11_noFight := goodIn_r _ [31, 6, 7, 14, 12, 13, 9, 10, 11, 32, 33, 34, 35, 36, 37, 38, 39, 40, 41, 42, 43, 44, 45, 46, 47, 48, 49, 50, 51, 52, 53, 54, 55] (by decide +kernel) (by decide +kernel)
set_option maxRecDepth 20000 in
theorem gX11_init_X11_noFight : GoodIn wsX11_init (wsV RX11 74 RX11 yX11_noFight wsX11_noFight) := goodIn_app (goodIn_of _ (by decide +kernel)) ggX11_init_X11_noFight
theorem dX11_init_0 : decode cX11_init 0 = .ok (.aload_n 0, 1) := by decide +kernel
theorem dX11_init_1 : decode cX11_init 1 = .ok (.invokespecial 1, 3) := by decide +kernel
theorem dX11_init_4 : decode cX11_init 4 = .ok (.aload_n 0, 1) := by decide +kernel
theorem dX11_init_5 : decode cX11_init 5 = .ok (.sipush 500, 3) := by decide +kernel
theorem dX11_init_8 : decode cX11_init 8 = .ok (.newarray .int, 2) := by decide +kernel
theorem dX11_init_10 : decode cX11_init 10 = .ok (.putfield 7, 3) := by decide +kernel
theorem dX11_init_13 : decode cX11_init 13 = .ok (.aload_n 0, 1) := by decide +kernel
theorem dX11_init_14 : decode cX11_init 14 = .ok (.iconst 2, 1) := by decide +kernel
theorem dX11_init_15 : decode cX11_init 15 = .ok (.newarray .int, 2) := by decide +kernel
theorem dX11_init_17 : decode cX11_init 17 = .ok (.putfield 13, 3) := by decide +kernel
theorem dX11_init_20 : decode cX11_init 20 = .ok (.aload_n 0, 1) := by decide +kernel
theorem dX11_init_21 : decode cX11_init 21 = .ok (.iconst 2, 1) := by decide +kernel
theorem dX11_init_22 : decode cX11_init 22 = .ok (.newarray .int, 2) := by decide +kernel
theorem dX11_init_24 : decode cX11_init 24 = .ok (.putfield 16, 3) := by decide +kernel
theorem dX11_init_27 : decode cX11_init 27 = .ok (.aload_n 0, 1) := by decide +kernel
theorem dX11_init_28 : decode cX11_init 28 = .ok (.sipush 400, 3) := by decide +kernel
theorem dX11_init_31 : decode cX11_init 31 = .ok (.newarray .int, 2) := by decide +kernel
theorem dX11_init_33 : decode cX11_init 33 = .ok (.putfield 19, 3) := by decide +kernel
theorem dX11_init_36 : decode cX11_init 36 = .ok (.aload_n 0, 1) := by decide +kernel
theorem dX11_init_37 : decode cX11_init 37 = .ok (.bipush 48, 2) := by decide +kernel
theorem dX11_init_39 : decode cX11_init 39 = .ok (.newarray .int, 2) := by decide +kernel
theorem dX11_init_41 : decode cX11_init 41 = .ok (.putfield 22, 3) := by decide +kernel
theorem dX11_init_44 : decode cX11_init 44 = .ok (.aload_n 0, 1) := by decide +kernel
theorem dX11_init_45 : decode cX11_init 45 = .ok (.bipush 48, 2) := by decide +kernel
theorem dX11_init_47 : decode cX11_init 47 = .ok (.newarray .int, 2) := by decide +kernel
theorem dX11_init_49 : decode cX11_init 49 = .ok (.putfield 25, 3) := by decide +kernel
theorem dX11_init_52 : decode cX11_init 52 = .ok (.aload_n 0, 1) := by decide +kernel
theorem dX11_init_53 : decode cX11_init 53 = .ok (.bipush 48, 2) := by decide +kernel
theorem dX11_init_55 : decode cX11_init 55 = .ok (.newarray .int, 2) := by decide +kernel
theorem dX11_init_57 : decode cX11_init 57 = .ok (.putfield 28, 3) := by decide +kernel
theorem dX11_init_60 : decode cX11_init 60 = .ok (.aload_n 0, 1) := by decide +kernel
theorem dX11_init_61 : decode cX11_init 61 = .ok (.iconst 2, 1) := by decide +kernel
theorem dX11_init_62 : decode cX11_init 62 = .ok (.newarray .int, 2) := by decide +kernel
theorem dX11_init_64 : decode cX11_init 64 = .ok (.putfield 31, 3) := by decide +kernel
theorem dX11_init_67 : decode cX11_init 67 = .ok (.aload_n 0, 1) := by decide +kernel
theorem dX11_init_68 : decode cX11_init 68 = .ok (.iconst 2, 1) := by decide +kernel
theorem dX11_init_69 : decode cX11_init 69 = .ok (.newarray .int, 2) := by decide +kernel
theorem dX11_init_71 : decode cX11_init 71 = .ok (.putfield 34, 3) := by decide +kernel
theorem dX11_init_74 : decode cX11_init 74 = .ok (.aload_n 0, 1) := by decide +kernel
theorem dX11_init_75 : decode cX11_init 75 = .ok (.iconst 2, 1) := by decide +kernel
theorem dX11_init_76 : decode cX11_init 76 = .ok (.newarray .int, 2) := by decide +kernel
theorem dX11_init_78 : decode cX11_init 78 = .ok (.putfield 37, 3) := by decide +kernel
theorem dX11_init_81 : decode cX11_init 81 = .ok (.aload_n 0, 1) := by decide +kernel
theorem dX11_init_82 : decode cX11_init 82 = .ok (.bipush 112, 2) := by decide +kernel
theorem dX11_init_84 : decode cX11_init 84 = .ok (.newarray .int, 2) := by decide +kernel
theorem dX11_init_86 : decode cX11_init 86 = .ok (.putfield 40, 3) := by decide +kernel
theorem dX11_init_89 : decode cX11_init 89 = .ok (.aload_n 0, 1) := by decide +kernel
theorem dX11_init_90 : decode cX11_init 90 = .ok (.bipush 24, 2) := by decide +kernel
theorem dX11_init_92 : decode cX11_init 92 = .ok (.newarray .int, 2) := by decide +kernel
theorem dX11_init_94 : decode cX11_init 94 = .ok (.putfield 43, 3) := by decide +kernel
theorem dX11_init_97 : decode cX11_init 97 = .ok (.aload_n 0, 1) := by decide +kernel
theorem dX11_init_98 : decode cX11_init 98 = .ok (.sipush 432, 3) := by decide +kernel
theorem dX11_init_101 : decode cX11_init 101 = .ok (.newarray .int, 2) := by decide +kernel
theorem dX11_init_103 : decode cX11_init 103 = .ok (.putfield 46, 3) := by decide +kernel
theorem dX11_init_106 : decode cX11_init 106 = .ok (.aload_n 0, 1) := by decide +kernel
theorem dX11_init_107 : decode cX11_init 107 = .ok (.bipush 12, 2) := by decide +kernel
theorem dX11_init_109 : decode cX11_init 109 = .ok (.newarray .int, 2) := by decide +kernel
theorem dX11_init_111 : decode cX11_init 111 = .ok (.putfield 49, 3) := by decide +kernel
theorem dX11_init_114 : decode cX11_init 114 = .ok (.aload_n 0, 1) := by decide +kernel
theorem dX11_init_115 : decode cX11_init 115 = .ok (.bipush 7, 2) := by decide +kernel
theorem dX11_init_117 : decode cX11_init 117 = .ok (.newarray .int, 2) := by decide +kernel
theorem dX11_init_119 : decode cX11_init 119 = .ok (.putfield 52, 3) := by decide +kernel
theorem dX11_init_122 : decode cX11_init 122 = .ok (.aload_n 0, 1) := by decide +kernel
theorem dX11_init_123 : decode cX11_init 123 = .ok (.sipush 601, 3) := by decide +kernel
theorem dX11_init_126 : decode cX11_init 126 = .ok (.newarray .long, 2) := by decide +kernel
theorem dX11_init_128 : decode cX11_init 128 = .ok (.putfield 55, 3) := by decide +kernel
theorem dX11_init_131 : decode cX11_init 131 = .ok (.aload_n 0, 1) := by decide +kernel
theorem dX11_init_132 : decode cX11_init 132 = .ok (.sipush 601, 3) := by decide +kernel
theorem dX11_init_135 : decode cX11_init 135 = .ok (.newarray .long, 2) := by decide +kernel
theorem dX11_init_137 : decode cX11_init 137 = .ok (.putfield 59, 3) := by decide +kernel
theorem dX11_init_140 : decode cX11_init 140 = .ok (.aload_n 0, 1) := by decide +kernel
theorem dX11_init_141 : decode cX11_init 141 = .ok (.bipush 9, 2) := by decide +kernel
theorem dX11_init_143 : decode cX11_init 143 = .ok (.newarray .long, 2) := by decide +kernel
theorem dX11_init_145 : decode cX11_init 145 = .ok (.putfield 62, 3) := by decide +kernel
theorem dX11_init_148 : decode cX11_init 148 = .ok (.aload_n 0, 1) := by decide +kernel
theorem dX11_init_149 : decode cX11_init 149 = .ok (.sipush 1520, 3) := by decide +kernel
theorem dX11_init_152 : decode cX11_init 152 = .ok (.newarray .int, 2) := by decide +kernel
theorem dX11_init_154 : decode cX11_init 154 = .ok (.putfield 65, 3) := by decide +kernel
theorem dX11_init_157 : decode cX11_init 157 = .ok (.aload_n 0, 1) := by decide +kernel
theorem dX11_init_158 : decode cX11_init 158 = .ok (.bipush 51, 2) := by decide +kernel
theorem dX11_init_160 : decode cX11_init 160 = .ok (.newarray .int, 2) := by decide +kernel
theorem dX11_init_162 : decode cX11_init 162 = .ok (.putfield 68, 3) := by decide +kernel
theorem dX11_init_165 : decode cX11_init 165 = .ok (.aload_n 0, 1) := by decide +kernel
theorem dX11_init_166 : decode cX11_init 166 = .ok (.bipush 51, 2) := by decide +kernel
theorem dX11_init_168 : decode cX11_init 168 = .ok (.newarray .int, 2) := by decide +kernel
theorem dX11_init_170 : decode cX11_init 170 = .ok (.putfield 71, 3) := by decide +kernel
theorem dX11_init_173 : decode cX11_init 173 = .ok (.aload_n 0, 1) := by decide +kernel
theorem dX11_init_174 : decode cX11_init 174 = .ok (.iconst 0, 1) := by decide +kernel
theorem dX11_init_175 : decode cX11_init 175 = .ok (.invokevirtual 74, 3) := by decide +kernel
theorem dX11_init_178 : decode cX11_init 178 = .ok (.aload_n 0, 1) := by decide +kernel
theorem dX11_init_179 : decode cX11_init 179 = .ok (.getfield 37, 3) := by decide +kernel
theorem dX11_init_182 : decode cX11_init 182 = .ok (.iconst 0, 1) := by decide +kernel
theorem dX11_init_183 : decode cX11_init 183 = .ok (.iconst 3, 1) := by decide +kernel
theorem dX11_init_184 : decode cX11_init 184 = .ok (.iastore, 1) := by decide +kernel
theorem dX11_init_185 : decode cX11_init 185 = .ok (.iconst 0, 1) := by decide +kernel
theorem dX11_init_186 : decode cX11_init 186 = .ok (.istore_n 1, 1) := by decide +kernel
theorem dX11_init_187 : decode cX11_init 187 = .ok (.iload_n 1, 1) := by decide +kernel
theorem dX11_init_188 : decode cX11_init 188 = .ok (.iconst 3, 1) := by decide +kernel
theorem dX11_init_189 : decode cX11_init 189 = .ok (.if_icmp .ge 46, 3) := by decide +kernel
theorem dX11_init_192 : decode cX11_init 192 = .ok (.aload_n 0, 1) := by decide +kernel
theorem dX11_init_193 : decode cX11_init 193 = .ok (.getfield 40, 3) := by decide +kernel
theorem dX11_init_196 : decode cX11_init 196 = .ok (.bipush 7, 2) := by decide +kernel
theorem dX11_init_198 : decode cX11_init 198 = .ok (.iload_n 1, 1) := by decide +kernel
theorem dX11_init_199 : decode cX11_init 199 = .ok (.imul, 1) := by decide +kernel
theorem dX11_init_200 : decode cX11_init 200 = .ok (.iconst 1, 1) := by decide +kernel
theorem dX11_init_201 : decode cX11_init 201 = .ok (.iadd, 1) := by decide +kernel
theorem dX11_init_202 : decode cX11_init 202 = .ok (.iconst 1, 1) := by decide +kernel
theorem dX11_init_203 : decode cX11_init 203 = .ok (.iastore, 1) := by decide +kernel
theorem dX11_init_204 : decode cX11_init 204 = .ok (.aload_n 0, 1) := by decide +kernel
theorem dX11_init_205 : decode cX11_init 205 = .ok (.getfield 40, 3) := by decide +kernel
theorem dX11_init_208 : decode cX11_init 208 = .ok (.bipush 7, 2) := by decide +kernel
theorem dX11_init_210 : decode cX11_init 210 = .ok (.iload_n 1, 1) := by decide +kernel
theorem dX11_init_211 : decode cX11_init 211 = .ok (.imul, 1) := by decide +kernel
theorem dX11_init_212 : decode cX11_init 212 = .ok (.iconst 3, 1) := by decide +kernel
theorem dX11_init_213 : decode cX11_init 213 = .ok (.iadd, 1) := by decide +kernel
theorem dX11_init_214 : decode cX11_init 214 = .ok (.bipush 20, 2) := by decide +kernel
theorem dX11_init_216 : decode cX11_init 216 = .ok (.iastore, 1) := by decide +kernel
theorem dX11_init_217 : decode cX11_init 217 = .ok (.aload_n 0, 1) := by decide +kernel
theorem dX11_init_218 : decode cX11_init 218 = .ok (.getfield 40, 3) := by decide +kernel
theorem dX11_init_221 : decode cX11_init 221 = .ok (.bipush 7, 2) := by decide +kernel
theorem dX11_init_223 : decode cX11_init 223 = .ok (.iload_n 1, 1) := by decide +kernel
theorem dX11_init_224 : decode cX11_init 224 = .ok (.imul, 1) := by decide +kernel
theorem dX11_init_225 : decode cX11_init 225 = .ok (.iconst 4, 1) := by decide +kernel
theorem dX11_init_226 : decode cX11_init 226 = .ok (.iadd, 1) := by decide +kernel
theorem dX11_init_227 : decode cX11_init 227 = .ok (.iconst 1, 1) := by decide +kernel
theorem dX11_init_228 : decode cX11_init 228 = .ok (.iastore, 1) := by decide +kernel
theorem dX11_init_229 : decode cX11_init 229 = .ok (.iinc 1 1, 3) := by decide +kernel
theorem dX11_init_232 : decode cX11_init 232 = .ok (.goto (-45), 3) := by decide +kernel
theorem dX11_init_235 : decode cX11_init 235 = .ok (.iconst 0, 1) := by decide +kernel
theorem dX11_init_236 : decode cX11_init 236 = .ok (.istore_n 1, 1) := by decide +kernel
theorem dX11_init_237 : decode cX11_init 237 = .ok (.iload_n 1, 1) := by decide +kernel
theorem dX11_init_238 : decode cX11_init 238 = .ok (.sipush 144, 3) := by decide +kernel
theorem dX11_init_241 : decode cX11_init 241 = .ok (.if_icmp .ge 17, 3) := by decide +kernel
theorem dX11_init_244 : decode cX11_init 244 = .ok (.aload_n 0, 1) := by decide +kernel
theorem dX11_init_245 : decode cX11_init 245 = .ok (.getfield 46, 3) := by decide +kernel
theorem dX11_init_248 : decode cX11_init 248 = .ok (.iload_n 1, 1) := by decide +kernel
theorem dX11_init_249 : decode cX11_init 249 = .ok (.bipush (-21), 2) := by decide +kernel
theorem dX11_init_251 : decode cX11_init 251 = .ok (.iastore, 1) := by decide +kernel
theorem dX11_init_252 : decode cX11_init 252 = .ok (.iinc 1 1, 3) := by decide +kernel
theorem dX11_init_255 : decode cX11_init 255 = .ok (.goto (-18), 3) := by decide +kernel
theorem dX11_init_258 : decode cX11_init 258 = .ok (.iconst 0, 1) := by decide +kernel
theorem dX11_init_259 : decode cX11_init 259 = .ok (.istore_n 1, 1) := by decide +kernel
theorem dX11_init_260 : decode cX11_init 260 = .ok (.iload_n 1, 1) := by decide +kernel
theorem dX11_init_261 : decode cX11_init 261 = .ok (.iconst 4, 1) := by decide +kernel
theorem dX11_init_262 : decode cX11_init 262 = .ok (.if_icmp .ge 16, 3) := by decide +kernel
theorem dX11_init_265 : decode cX11_init 265 = .ok (.aload_n 0, 1) := by decide +kernel
theorem dX11_init_266 : decode cX11_init 266 = .ok (.getfield 49, 3) := by decide +kernel
theorem dX11_init_269 : decode cX11_init 269 = .ok (.iload_n 1, 1) := by decide +kernel
theorem dX11_init_270 : decode cX11_init 270 = .ok (.iconst 5, 1) := by decide +kernel
theorem dX11_init_271 : decode cX11_init 271 = .ok (.iastore, 1) := by decide +kernel
theorem dX11_init_272 : decode cX11_init 272 = .ok (.iinc 1 1, 3) := by decide +kernel
theorem dX11_init_275 : decode cX11_init 275 = .ok (.goto (-15), 3) := by decide +kernel
theorem dX11_init_278 : decode cX11_init 278 = .ok (.return_, 1) := by decide +kernel
theorem dX11_in_0 : decode cX11_in 0 = .ok (.lload_n 0, 1) := by decide +kernel
theorem dX11_in_1 : decode cX11_in 1 = .ok (.lload_n 2, 1) := by decide +kernel
theorem dX11_in_2 : decode cX11_in 2 = .ok (.lcmp, 1) := by decide +kernel
theorem dX11_in_3 : decode cX11_in 3 = .ok (.ifCond .lt 14, 3) := by decide +kernel
theorem dX11_in_6 : decode cX11_in 6 = .ok (.lload_n 0, 1) := by decide +kernel
theorem dX11_in_7 : decode cX11_in 7 = .ok (.lload 4, 2) := by decide +kernel
theorem dX11_in_9 : decode cX11_in 9 = .ok (.lcmp, 1) := by decide +kernel
theorem dX11_in_10 : decode cX11_in 10 = .ok (.ifCond .gt 7, 3) := by decide +kernel
theorem dX11_in_13 : decode cX11_in 13 = .ok (.iconst 1, 1) := by decide +kernel
theorem dX11_in_14 : decode cX11_in 14 = .ok (.goto 4, 3) := by decide +kernel
theorem dX11_in_17 : decode cX11_in 17 = .ok (.iconst 0, 1) := by decide +kernel
theorem dX11_in_18 : decode cX11_in 18 = .ok (.ireturn, 1) := by decide +kernel
theorem dX11_noFight_0 : decode cX11_noFight 0 = .ok (.aload_n 0, 1) := by decide +kernel
theorem dX11_noFight_1 : decode cX11_noFight 1 = .ok (.getfield 13, 3) := by decide +kernel
theorem dX11_noFight_4 : decode cX11_noFight 4 = .ok (.iload_n 1, 1) := by decide +kernel
theorem dX11_noFight_5 : decode cX11_noFight 5 = .ok (.bipush 12, 2) := by decide +kernel
theorem dX11_noFight_7 : decode cX11_noFight 7 = .ok (.iastore, 1) := by decide +kernel
theorem dX11_noFight_8 : decode cX11_noFight 8 = .ok (.aload_n 0, 1) := by decide +kernel
theorem dX11_noFight_9 : decode cX11_noFight 9 = .ok (.getfield 16, 3) := by decide +kernel
theorem dX11_noFight_12 : decode cX11_noFight 12 = .ok (.iload_n 1, 1) := by decide +kernel
theorem dX11_noFight_13 : decode cX11_noFight 13 = .ok (.iconst 0, 1) := by decide +kernel
theorem dX11_noFight_14 : decode cX11_noFight 14 = .ok (.iastore, 1) := by decide +kernel
theorem dX11_noFight_15 : decode cX11_noFight 15 = .ok (.aload_n 0, 1) := by decide +kernel
theorem dX11_noFight_16 : decode cX11_noFight 16 = .ok (.getfield 37, 3) := by decide +kernel
theorem dX11_noFight_19 : decode cX11_noFight 19 = .ok (.iload_n 1, 1) := by decide +kernel
theorem dX11_noFight_20 : decode cX11_noFight 20 = .ok (.iconst 0, 1) := by decide +kernel
theorem dX11_noFight_21 : decode cX11_noFight 21 = .ok (.iastore, 1) := by decide +kernel
theorem dX11_noFight_22 : decode cX11_noFight 22 = .ok (.aload_n 0, 1) := by decide +kernel
theorem dX11_noFight_23 : decode cX11_noFight 23 = .ok (.getfield 31, 3) := by decide +kernel
theorem dX11_noFight_26 : decode cX11_noFight 26 = .ok (.iload_n 1, 1) := by decide +kernel
theorem dX11_noFight_27 : decode cX11_noFight 27 = .ok (.iconst 0, 1) := by decide +kernel
theorem dX11_noFight_28 : decode cX11_noFight 28 = .ok (.iastore, 1) := by decide +kernel
theorem dX11_noFight_29 : decode cX11_noFight 29 = .ok (.aload_n 0, 1) := by decide +kernel
theorem dX11_noFight_30 : decode cX11_noFight 30 = .ok (.getfield 34, 3) := by decide +kernel
theorem dX11_noFight_33 : decode cX11_noFight 33 = .ok (.iload_n 1, 1) := by decide +kernel
theorem dX11_noFight_34 : decode cX11_noFight 34 = .ok (.iconst 0, 1) := by decide +kernel
theorem dX11_noFight_35 : decode cX11_noFight 35 = .ok (.iastore, 1) := by decide +kernel
theorem dX11_noFight_36 : decode cX11_noFight 36 = .ok (.iconst 0, 1) := by decide +kernel
theorem dX11_noFight_37 : decode cX11_noFight 37 = .ok (.istore_n 2, 1) := by decide +kernel
theorem dX11_noFight_38 : decode cX11_noFight 38 = .ok (.iload_n 2, 1) := by decide +kernel
theorem dX11_noFight_39 : decode cX11_noFight 39 = .ok (.bipush 24, 2) := by decide +kernel
theorem dX11_noFight_41 : decode cX11_noFight 41 = .ok (.if_icmp .ge 45, 3) := by decide +kernel
theorem dX11_noFight_44 : decode cX11_noFight 44 = .ok (.aload_n 0, 1) := by decide +kernel
theorem dX11_noFight_45 : decode cX11_noFight 45 = .ok (.getfield 22, 3) := by decide +kernel
theorem dX11_noFight_48 : decode cX11_noFight 48 = .ok (.bipush 24, 2) := by decide +kernel
theorem dX11_noFight_50 : decode cX11_noFight 50 = .ok (.iload_n 1, 1) := by decide +kernel
theorem dX11_noFight_51 : decode cX11_noFight 51 = .ok (.imul, 1) := by decide +kernel
theorem dX11_noFight_52 : decode cX11_noFight 52 = .ok (.iload_n 2, 1) := by decide +kernel
theorem dX11_noFight_53 : decode cX11_noFight 53 = .ok (.iadd, 1) := by decide +kernel
theorem dX11_noFight_54 : decode cX11_noFight 54 = .ok (.iconst 0, 1) := by decide +kernel
theorem dX11_noFight_55 : decode cX11_noFight 55 = .ok (.iastore, 1) := by decide +kernel
theorem dX11_noFight_56 : decode cX11_noFight 56 = .ok (.aload_n 0, 1) := by decide +kernel
theorem dX11_noFight_57 : decode cX11_noFight 57 = .ok (.getfield 25, 3) := by decide +kernel
theorem dX11_noFight_60 : decode cX11_noFight 60 = .ok (.bipush 24, 2) := by decide +kernel
theorem dX11_noFight_62 : decode cX11_noFight 62 = .ok (.iload_n 1, 1) := by decide +kernel
theorem dX11_noFight_63 : decode cX11_noFight 63 = .ok (.imul, 1) := by decide +kernel
theorem dX11_noFight_64 : decode cX11_noFight 64 = .ok (.iload_n 2, 1) := by decide +kernel
theorem dX11_noFight_65 : decode cX11_noFight 65 = .ok (.iadd, 1) := by decide +kernel
theorem dX11_noFight_66 : decode cX11_noFight 66 = .ok (.iconst 0, 1) := by decide +kernel
theorem dX11_noFight_67 : decode cX11_noFight 67 = .ok (.iastore, 1) := by decide +kernel
theorem dX11_noFight_68 : decode cX11_noFight 68 = .ok (.aload_n 0, 1) := by decide +kernel
theorem dX11_noFight_69 : decode cX11_noFight 69 = .ok (.getfield 28, 3) := by decide +kernel
theorem dX11_noFight_72 : decode cX11_noFight 72 = .ok (.bipush 24, 2) := by decide +kernel
theorem dX11_noFight_74 : decode cX11_noFight 74 = .ok (.iload_n 1, 1) := by decide +kernel
theorem dX11_noFight_75 : decode cX11_noFight 75 = .ok (.imul, 1) := by decide +kernel
theorem dX11_noFight_76 : decode cX11_noFight 76 = .ok (.iload_n 2, 1) := by decide +kernel
theorem dX11_noFight_77 : decode cX11_noFight 77 = .ok (.iadd, 1) := by decide +kernel
theorem dX11_noFight_78 : decode cX11_noFight 78 = .ok (.iconst 0, 1) := by decide +kernel
theorem dX11_noFight_79 : decode cX11_noFight 79 = .ok (.iastore, 1) := by decide +kernel
theorem dX11_noFight_80 : decode cX11_noFight 80 = .ok (.iinc 2 1, 3) := by decide +kernel
theorem dX11_noFight_83 : decode cX11_noFight 83 = .ok (.goto (-45), 3) := by decide +kernel
theorem dX11_noFight_86 : decode cX11_noFight 86 = .ok (.return_, 1) := by decide +kernel
set_option maxRecDepth 20000 in
theorem ggX11_write_X11_in : GoodIn wsX11_write wsX11_in := goodIn_r _ [8] (by decide +kernel) (by decide +kernel)
set_option maxRecDepth 20000 in
theorem gX11_write_X11_in : GoodIn wsX11_write (va_wsS RX11 80 yX11_in wsX11_in) := goodIn_app (goodIn_of _ (by decide +kernel)) ggX11_write_X11_in
theorem dX11_write_0 : decode cX11_write 0 = .ok (.iload_n 1, 1) := by decide +kernel
theorem dX11_write_1 : decode cX11_write 1 = .ok (.i2l, 1) := by decide +kernel
theorem dX11_write_2 : decode cX11_write 2 = .ok (.lconst 1, 1) := by decide +kernel
theorem dX11_write_3 : decode cX11_write 3 = .ok (.ldc2_w 78, 3) := by decide +kernel
theorem dX11_write_6 : decode cX11_write 6 = .ok (.invokestatic 80, 3) := by decide +kernel
theorem dX11_write_9 : decode cX11_write 9 = .ok (.ifCond .ne 5, 3) := by decide +kernel
theorem dX11_write_12 : decode cX11_write 12 = .ok (.iconst (-1), 1) := by decide +kernel
theorem dX11_write_13 : decode cX11_write 13 = .ok (.ireturn, 1) := by decide +kernel
theorem dX11_write_14 : decode cX11_write 14 = .ok (.aload_n 0, 1) := by decide +kernel
theorem dX11_write_15 : decode cX11_write 15 = .ok (.getfield 84, 3) := by decide +kernel
theorem dX11_write_18 : decode cX11_write 18 = .ok (.iload_n 1, 1) := by decide +kernel
theorem dX11_write_19 : decode cX11_write 19 = .ok (.iadd, 1) := by decide +kernel
theorem dX11_write_20 : decode cX11_write 20 = .ok (.sipush 500, 3) := by decide +kernel
theorem dX11_write_23 : decode cX11_write 23 = .ok (.if_icmp .le 6, 3) := by decide +kernel
theorem dX11_write_26 : decode cX11_write 26 = .ok (.bipush (-3), 2) := by decide +kernel
theorem dX11_write_28 : decode cX11_write 28 = .ok (.ireturn, 1) := by decide +kernel
theorem dX11_write_29 : decode cX11_write 29 = .ok (.iload_n 1, 1) := by decide +kernel
theorem dX11_write_30 : decode cX11_write 30 = .ok (.iconst 1, 1) := by decide +kernel
theorem dX11_write_31 : decode cX11_write 31 = .ok (.isub, 1) := by decide +kernel
theorem dX11_write_32 : decode cX11_write 32 = .ok (.istore 4, 2) := by decide +kernel
theorem dX11_write_34 : decode cX11_write 34 = .ok (.iload 4, 2) := by decide +kernel
theorem dX11_write_36 : decode cX11_write 36 = .ok (.ifCond .lt 40, 3) := by decide +kernel
theorem dX11_write_39 : decode cX11_write 39 = .ok (.aload_n 0, 1) := by decide +kernel
theorem dX11_write_40 : decode cX11_write 40 = .ok (.getfield 7, 3) := by decide +kernel
theorem dX11_write_43 : decode cX11_write 43 = .ok (.aload_n 0, 1) := by decide +kernel
theorem dX11_write_44 : decode cX11_write 44 = .ok (.getfield 84, 3) := by decide +kernel
theorem dX11_write_47 : decode cX11_write 47 = .ok (.lload_n 2, 1) := by decide +kernel
theorem dX11_write_48 : decode cX11_write 48 = .ok (.bipush 8, 2) := by decide +kernel
theorem dX11_write_50 : decode cX11_write 50 = .ok (.iload 4, 2) := by decide +kernel
theorem dX11_write_52 : decode cX11_write 52 = .ok (.imul, 1) := by decide +kernel
theorem dX11_write_53 : decode cX11_write 53 = .ok (.lshr, 1) := by decide +kernel
theorem dX11_write_54 : decode cX11_write 54 = .ok (.ldc2_w 88, 3) := by decide +kernel
theorem dX11_write_57 : decode cX11_write 57 = .ok (.land, 1) := by decide +kernel
theorem dX11_write_58 : decode cX11_write 58 = .ok (.l2i, 1) := by decide +kernel
theorem dX11_write_59 : decode cX11_write 59 = .ok (.iastore, 1) := by decide +kernel
theorem dX11_write_60 : decode cX11_write 60 = .ok (.aload_n 0, 1) := by decide +kernel
theorem dX11_write_61 : decode cX11_write 61 = .ok (.dup, 1) := by decide +kernel
theorem dX11_write_62 : decode cX11_write 62 = .ok (.getfield 84, 3) := by decide +kernel
theorem dX11_write_65 : decode cX11_write 65 = .ok (.iconst 1, 1) := by decide +kernel
theorem dX11_write_66 : decode cX11_write 66 = .ok (.iadd, 1) := by decide +kernel
theorem dX11_write_67 : decode cX11_write 67 = .ok (.putfield 84, 3) := by decide +kernel
theorem dX11_write_70 : decode cX11_write 70 = .ok (.iinc 4 (-1), 3) := by decide +kernel
theorem dX11_write_73 : decode cX11_write 73 = .ok (.goto (-39), 3) := by decide +kernel
theorem dX11_write_76 : decode cX11_write 76 = .ok (.aload_n 0, 1) := by decide +kernel
theorem dX11_write_77 : decode cX11_write 77 = .ok (.getfield 84, 3) := by decide +kernel
theorem dX11_write_80 : decode cX11_write 80 = .ok (.ireturn, 1) := by decide +kernel
theorem dX11_wipe_0 : decode cX11_wipe 0 = .ok (.aload_n 0, 1) := by decide +kernel
theorem dX11_wipe_1 : decode cX11_wipe 1 = .ok (.getfield 84, 3) := by decide +kernel
theorem dX11_wipe_4 : decode cX11_wipe 4 = .ok (.istore_n 1, 1) := by decide +kernel
theorem dX11_wipe_5 : decode cX11_wipe 5 = .ok (.aload_n 0, 1) := by decide +kernel
theorem dX11_wipe_6 : decode cX11_wipe 6 = .ok (.iconst 0, 1) := by decide +kernel
theorem dX11_wipe_7 : decode cX11_wipe 7 = .ok (.putfield 84, 3) := by decide +kernel
theorem dX11_wipe_10 : decode cX11_wipe 10 = .ok (.iload_n 1, 1) := by decide +kernel
theorem dX11_wipe_11 : decode cX11_wipe 11 = .ok (.ireturn, 1) := by decide +kernel
theorem dX11_byteAt_0 : decode cX11_byteAt 0 = .ok (.iload_n 1, 1) := by decide +kernel
theorem dX11_byteAt_1 : decode cX11_byteAt 1 = .ok (.aload_n 0, 1) := by decide +kernel
theorem dX11_byteAt_2 : decode cX11_byteAt 2 = .ok (.getfield 84, 3) := by decide +kernel
theorem dX11_byteAt_5 : decode cX11_byteAt 5 = .ok (.if_icmp .ge 12, 3) := by decide +kernel
theorem dX11_byteAt_8 : decode cX11_byteAt 8 = .ok (.aload_n 0, 1) := by decide +kernel
theorem dX11_byteAt_9 : decode cX11_byteAt 9 = .ok (.getfield 7, 3) := by decide +kernel
theorem dX11_byteAt_12 : decode cX11_byteAt 12 = .ok (.iload_n 1, 1) := by decide +kernel
theorem dX11_byteAt_13 : decode cX11_byteAt 13 = .ok (.iaload, 1) := by decide +kernel
theorem dX11_byteAt_14 : decode cX11_byteAt 14 = .ok (.goto 4, 3) := by decide +kernel
theorem dX11_byteAt_17 : decode cX11_byteAt 17 = .ok (.iconst 0, 1) := by decide +kernel
theorem dX11_byteAt_18 : decode cX11_byteAt 18 = .ok (.ireturn, 1) := by decide +kernel
set_option maxRecDepth 20000 in
theorem ggX11_figures_X11_byteAt : GoodIn wsX11_figures wsX11_byteAt := goodIn_r _ [10, 11, 12, 16, 17, 18, 19, 20, 21, 22, 23, 24, 25, 26, 27, 28, 29, 30, 31, 32, 33, 34, 35, 36, 37, 38, 39] (by decide +kernel) (by decide +kernel)
set_option maxRecDepth 20000 in
theorem gX11_figures_X11_byteAt : GoodIn wsX11_figures (wsV RX11 93 RX11 yX11_byteAt wsX11_byteAt) := goodIn_app (goodIn_of _ (by decide +kernel)) ggX11_figures_X11_byteAt
set_option maxRecDepth 20000 in
theorem ggX11_figures_X11_in : GoodIn wsX11_figures wsX11_in := goodIn_r _ [15] (by decide +kernel) (by decide +kernel)
set_option maxRecDepth 20000 in
theorem gX11_figures_X11_in : GoodIn wsX11_figures (va_wsS RX11 80 yX11_in wsX11_in) := goodIn_app (goodIn_of _ (by decide +kernel)) ggX11_figures_X11_in
theorem dX11_figures_0 : decode cX11_figures 0 = .ok (.iconst 0, 1) := by decide +kernel
theorem dX11_figures_1 : decode cX11_figures 1 = .ok (.istore_n 2, 1) := by decide +kernel
theorem dX11_figures_2 : decode cX11_figures 2 = .ok (.iload_n 2, 1) := by decide +kernel
theorem dX11_figures_3 : decode cX11_figures 3 = .ok (.iload_n 1, 1) := by decide +kernel
theorem dX11_figures_4 : decode cX11_figures 4 = .ok (.if_icmp .ge 132, 3) := by decide +kernel
theorem dX11_figures_7 : decode cX11_figures 7 = .ok (.iconst 0, 1) := by decide +kernel
theorem dX11_figures_8 : decode cX11_figures 8 = .ok (.istore_n 3, 1) := by decide +kernel
theorem dX11_figures_9 : decode cX11_figures 9 = .ok (.iconst 0, 1) := by decide +kernel
theorem dX11_figures_10 : decode cX11_figures 10 = .ok (.istore 4, 2) := by decide +kernel
theorem dX11_figures_12 : decode cX11_figures 12 = .ok (.aload_n 0, 1) := by decide +kernel
theorem dX11_figures_13 : decode cX11_figures 13 = .ok (.aload_n 0, 1) := by decide +kernel
theorem dX11_figures_14 : decode cX11_figures 14 = .ok (.getfield 90, 3) := by decide +kernel
theorem dX11_figures_17 : decode cX11_figures 17 = .ok (.invokevirtual 93, 3) := by decide +kernel
theorem dX11_figures_20 : decode cX11_figures 20 = .ok (.i2l, 1) := by decide +kernel
theorem dX11_figures_21 : decode cX11_figures 21 = .ok (.ldc2_w 97, 3) := by decide +kernel
theorem dX11_figures_24 : decode cX11_figures 24 = .ok (.ldc2_w 99, 3) := by decide +kernel
theorem dX11_figures_27 : decode cX11_figures 27 = .ok (.invokestatic 80, 3) := by decide +kernel
theorem dX11_figures_30 : decode cX11_figures 30 = .ok (.ifCond .eq 43, 3) := by decide +kernel
theorem dX11_figures_33 : decode cX11_figures 33 = .ok (.iload_n 3, 1) := by decide +kernel
theorem dX11_figures_34 : decode cX11_figures 34 = .ok (.iconst 4, 1) := by decide +kernel
theorem dX11_figures_35 : decode cX11_figures 35 = .ok (.if_icmp .ge 38, 3) := by decide +kernel
theorem dX11_figures_38 : decode cX11_figures 38 = .ok (.bipush 10, 2) := by decide +kernel
theorem dX11_figures_40 : decode cX11_figures 40 = .ok (.iload 4, 2) := by decide +kernel
theorem dX11_figures_42 : decode cX11_figures 42 = .ok (.imul, 1) := by decide +kernel
theorem dX11_figures_43 : decode cX11_figures 43 = .ok (.aload_n 0, 1) := by decide +kernel
theorem dX11_figures_44 : decode cX11_figures 44 = .ok (.aload_n 0, 1) := by decide +kernel
theorem dX11_figures_45 : decode cX11_figures 45 = .ok (.getfield 90, 3) := by decide +kernel
theorem dX11_figures_48 : decode cX11_figures 48 = .ok (.invokevirtual 93, 3) := by decide +kernel
theorem dX11_figures_51 : decode cX11_figures 51 = .ok (.iadd, 1) := by decide +kernel
theorem dX11_figures_52 : decode cX11_figures 52 = .ok (.bipush 48, 2) := by decide +kernel
theorem dX11_figures_54 : decode cX11_figures 54 = .ok (.isub, 1) := by decide +kernel
theorem dX11_figures_55 : decode cX11_figures 55 = .ok (.istore 4, 2) := by decide +kernel
theorem dX11_figures_57 : decode cX11_figures 57 = .ok (.iinc 3 1, 3) := by decide +kernel
theorem dX11_figures_60 : decode cX11_figures 60 = .ok (.aload_n 0, 1) := by decide +kernel
theorem dX11_figures_61 : decode cX11_figures 61 = .ok (.dup, 1) := by decide +kernel
theorem dX11_figures_62 : decode cX11_figures 62 = .ok (.getfield 90, 3) := by decide +kernel
theorem dX11_figures_65 : decode cX11_figures 65 = .ok (.iconst 1, 1) := by decide +kernel
theorem dX11_figures_66 : decode cX11_figures 66 = .ok (.iadd, 1) := by decide +kernel
theorem dX11_figures_67 : decode cX11_figures 67 = .ok (.putfield 90, 3) := by decide +kernel
theorem dX11_figures_70 : decode cX11_figures 70 = .ok (.goto (-58), 3) := by decide +kernel
theorem dX11_figures_73 : decode cX11_figures 73 = .ok (.iload_n 3, 1) := by decide +kernel
theorem dX11_figures_74 : decode cX11_figures 74 = .ok (.i2l, 1) := by decide +kernel
theorem dX11_figures_75 : decode cX11_figures 75 = .ok (.lconst 1, 1) := by decide +kernel
theorem dX11_figures_76 : decode cX11_figures 76 = .ok (.ldc2_w 101, 3) := by decide +kernel
theorem dX11_figures_79 : decode cX11_figures 79 = .ok (.invokestatic 80, 3) := by decide +kernel
theorem dX11_figures_82 : decode cX11_figures 82 = .ok (.ifCond .eq 28, 3) := by decide +kernel
theorem dX11_figures_85 : decode cX11_figures 85 = .ok (.aload_n 0, 1) := by decide +kernel
theorem dX11_figures_86 : decode cX11_figures 86 = .ok (.aload_n 0, 1) := by decide +kernel
theorem dX11_figures_87 : decode cX11_figures 87 = .ok (.getfield 90, 3) := by decide +kernel
theorem dX11_figures_90 : decode cX11_figures 90 = .ok (.invokevirtual 93, 3) := by decide +kernel
theorem dX11_figures_93 : decode cX11_figures 93 = .ok (.iload_n 2, 1) := by decide +kernel
theorem dX11_figures_94 : decode cX11_figures 94 = .ok (.iload_n 1, 1) := by decide +kernel
theorem dX11_figures_95 : decode cX11_figures 95 = .ok (.iconst 1, 1) := by decide +kernel
theorem dX11_figures_96 : decode cX11_figures 96 = .ok (.isub, 1) := by decide +kernel
theorem dX11_figures_97 : decode cX11_figures 97 = .ok (.if_icmp .ge 8, 3) := by decide +kernel
theorem dX11_figures_100 : decode cX11_figures 100 = .ok (.bipush 44, 2) := by decide +kernel
theorem dX11_figures_102 : decode cX11_figures 102 = .ok (.goto 5, 3) := by decide +kernel
theorem dX11_figures_105 : decode cX11_figures 105 = .ok (.bipush 59, 2) := by decide +kernel
theorem dX11_figures_107 : decode cX11_figures 107 = .ok (.if_icmp .eq 5, 3) := by decide +kernel
theorem dX11_figures_110 : decode cX11_figures 110 = .ok (.iconst 0, 1) := by decide +kernel
theorem dX11_figures_111 : decode cX11_figures 111 = .ok (.ireturn, 1) := by decide +kernel
theorem dX11_figures_112 : decode cX11_figures 112 = .ok (.aload_n 0, 1) := by decide +kernel
theorem dX11_figures_113 : decode cX11_figures 113 = .ok (.getfield 52, 3) := by decide +kernel
theorem dX11_figures_116 : decode cX11_figures 116 = .ok (.iload_n 2, 1) := by decide +kernel
theorem dX11_figures_117 : decode cX11_figures 117 = .ok (.iload 4, 2) := by decide +kernel
theorem dX11_figures_119 : decode cX11_figures 119 = .ok (.iastore, 1) := by decide +kernel
theorem dX11_figures_120 : decode cX11_figures 120 = .ok (.aload_n 0, 1) := by decide +kernel
theorem dX11_figures_121 : decode cX11_figures 121 = .ok (.dup, 1) := by decide +kernel
theorem dX11_figures_122 : decode cX11_figures 122 = .ok (.getfield 90, 3) := by decide +kernel
theorem dX11_figures_125 : decode cX11_figures 125 = .ok (.iconst 1, 1) := by decide +kernel
theorem dX11_figures_126 : decode cX11_figures 126 = .ok (.iadd, 1) := by decide +kernel
theorem dX11_figures_127 : decode cX11_figures 127 = .ok (.putfield 90, 3) := by decide +kernel
theorem dX11_figures_130 : decode cX11_figures 130 = .ok (.iinc 2 1, 3) := by decide +kernel
theorem dX11_figures_133 : decode cX11_figures 133 = .ok (.goto (-131), 3) := by decide +kernel
theorem dX11_figures_136 : decode cX11_figures 136 = .ok (.iconst 1, 1) := by decide +kernel
theorem dX11_figures_137 : decode cX11_figures 137 = .ok (.ireturn, 1) := by decide +kernel
set_option maxRecDepth 20000 in
theorem ggX11_blowItem_X11_figures : GoodIn wsX11_blowItem wsX11_figures := goodIn_r _ [9, 10, 11, 12, 13, 2, 14, 15, 16, 8, 17, 18, 19, 20, 21, 22, 23, 24, 25, 26, 27, 28, 29, 30, 31, 32, 33, 34, 35, 36, 37, 38, 39, 40, 41, 42, 43, 44, 45, 46] (by decide +kernel) (by decide +kernel)
set_option maxRecDepth 20000 in
theorem gX11_blowItem_X11_figures : GoodIn wsX11_blowItem (wsV RX11 103 RX11 yX11_figures wsX11_figures) := goodIn_app (goodIn_of _ (by decide +kernel)) ggX11_blowItem_X11_figures
set_option maxRecDepth 20000 in
theorem ggX11_blowItem_X11_in : GoodIn wsX11_blowItem wsX11_in := goodIn_r _ [22] (by decide +kernel) (by decide +kernel)
set_option maxRecDepth 20000 in
theorem gX11_blowItem_X11_in : GoodIn wsX11_blowItem (va_wsS RX11 80 yX11_in wsX11_in) := goodIn_app (goodIn_of _ (by decide +kernel)) ggX11_blowItem_X11_in
theorem dX11_blowItem_0 : decode cX11_blowItem 0 = .ok (.aload_n 0, 1) := by decide +kernel
theorem dX11_blowItem_1 : decode cX11_blowItem 1 = .ok (.getfield 16, 3) := by decide +kernel
theorem dX11_blowItem_4 : decode cX11_blowItem 4 = .ok (.iconst 1, 1) := by decide +kernel
theorem dX11_blowItem_5 : decode cX11_blowItem 5 = .ok (.iaload, 1) := by decide +kernel
theorem dX11_blowItem_6 : decode cX11_blowItem 6 = .ok (.istore_n 1, 1) := by decide +kernel
theorem dX11_blowItem_7 : decode cX11_blowItem 7 = .ok (.aload_n 0, 1) := by decide +kernel
theorem dX11_blowItem_8 : decode cX11_blowItem 8 = .ok (.iconst 5, 1) := by decide +kernel
theorem dX11_blowItem_9 : decode cX11_blowItem 9 = .ok (.invokevirtual 103, 3) := by decide +kernel
theorem dX11_blowItem_12 : decode cX11_blowItem 12 = .ok (.ifCond .eq 70, 3) := by decide +kernel
theorem dX11_blowItem_15 : decode cX11_blowItem 15 = .ok (.iload_n 1, 1) := by decide +kernel
theorem dX11_blowItem_16 : decode cX11_blowItem 16 = .ok (.bipush 40, 2) := by decide +kernel
theorem dX11_blowItem_18 : decode cX11_blowItem 18 = .ok (.if_icmp .eq 64, 3) := by decide +kernel
theorem dX11_blowItem_21 : decode cX11_blowItem 21 = .ok (.aload_n 0, 1) := by decide +kernel
theorem dX11_blowItem_22 : decode cX11_blowItem 22 = .ok (.getfield 52, 3) := by decide +kernel
theorem dX11_blowItem_25 : decode cX11_blowItem 25 = .ok (.iconst 0, 1) := by decide +kernel
theorem dX11_blowItem_26 : decode cX11_blowItem 26 = .ok (.iaload, 1) := by decide +kernel
theorem dX11_blowItem_27 : decode cX11_blowItem 27 = .ok (.bipush 11, 2) := by decide +kernel
theorem dX11_blowItem_29 : decode cX11_blowItem 29 = .ok (.if_icmp .gt 53, 3) := by decide +kernel
theorem dX11_blowItem_32 : decode cX11_blowItem 32 = .ok (.aload_n 0, 1) := by decide +kernel
theorem dX11_blowItem_33 : decode cX11_blowItem 33 = .ok (.getfield 52, 3) := by decide +kernel
theorem dX11_blowItem_36 : decode cX11_blowItem 36 = .ok (.iconst 1, 1) := by decide +kernel
theorem dX11_blowItem_37 : decode cX11_blowItem 37 = .ok (.iaload, 1) := by decide +kernel
theorem dX11_blowItem_38 : decode cX11_blowItem 38 = .ok (.sipush 179, 3) := by decide +kernel
theorem dX11_blowItem_41 : decode cX11_blowItem 41 = .ok (.if_icmp .gt 41, 3) := by decide +kernel
theorem dX11_blowItem_44 : decode cX11_blowItem 44 = .ok (.aload_n 0, 1) := by decide +kernel
theorem dX11_blowItem_45 : decode cX11_blowItem 45 = .ok (.getfield 52, 3) := by decide +kernel
theorem dX11_blowItem_48 : decode cX11_blowItem 48 = .ok (.iconst 2, 1) := by decide +kernel
theorem dX11_blowItem_49 : decode cX11_blowItem 49 = .ok (.iaload, 1) := by decide +kernel
theorem dX11_blowItem_50 : decode cX11_blowItem 50 = .ok (.iconst 1, 1) := by decide +kernel
theorem dX11_blowItem_51 : decode cX11_blowItem 51 = .ok (.if_icmp .gt 31, 3) := by decide +kernel
theorem dX11_blowItem_54 : decode cX11_blowItem 54 = .ok (.aload_n 0, 1) := by decide +kernel
theorem dX11_blowItem_55 : decode cX11_blowItem 55 = .ok (.getfield 52, 3) := by decide +kernel
theorem dX11_blowItem_58 : decode cX11_blowItem 58 = .ok (.iconst 3, 1) := by decide +kernel
theorem dX11_blowItem_59 : decode cX11_blowItem 59 = .ok (.iaload, 1) := by decide +kernel
theorem dX11_blowItem_60 : decode cX11_blowItem 60 = .ok (.i2l, 1) := by decide +kernel
theorem dX11_blowItem_61 : decode cX11_blowItem 61 = .ok (.lconst 1, 1) := by decide +kernel
theorem dX11_blowItem_62 : decode cX11_blowItem 62 = .ok (.ldc2_w 107, 3) := by decide +kernel
theorem dX11_blowItem_65 : decode cX11_blowItem 65 = .ok (.invokestatic 80, 3) := by decide +kernel
theorem dX11_blowItem_68 : decode cX11_blowItem 68 = .ok (.ifCond .eq 14, 3) := by decide +kernel
theorem dX11_blowItem_71 : decode cX11_blowItem 71 = .ok (.aload_n 0, 1) := by decide +kernel
theorem dX11_blowItem_72 : decode cX11_blowItem 72 = .ok (.getfield 52, 3) := by decide +kernel
theorem dX11_blowItem_75 : decode cX11_blowItem 75 = .ok (.iconst 4, 1) := by decide +kernel
theorem dX11_blowItem_76 : decode cX11_blowItem 76 = .ok (.iaload, 1) := by decide +kernel
theorem dX11_blowItem_77 : decode cX11_blowItem 77 = .ok (.bipush 11, 2) := by decide +kernel
theorem dX11_blowItem_79 : decode cX11_blowItem 79 = .ok (.if_icmp .le 5, 3) := by decide +kernel
theorem dX11_blowItem_82 : decode cX11_blowItem 82 = .ok (.iconst 0, 1) := by decide +kernel
theorem dX11_blowItem_83 : decode cX11_blowItem 83 = .ok (.ireturn, 1) := by decide +kernel
theorem dX11_blowItem_84 : decode cX11_blowItem 84 = .ok (.iconst 0, 1) := by decide +kernel
theorem dX11_blowItem_85 : decode cX11_blowItem 85 = .ok (.istore_n 2, 1) := by decide +kernel
theorem dX11_blowItem_86 : decode cX11_blowItem 86 = .ok (.iload_n 2, 1) := by decide +kernel
theorem dX11_blowItem_87 : decode cX11_blowItem 87 = .ok (.iconst 5, 1) := by decide +kernel
theorem dX11_blowItem_88 : decode cX11_blowItem 88 = .ok (.if_icmp .ge 29, 3) := by decide +kernel
theorem dX11_blowItem_91 : decode cX11_blowItem 91 = .ok (.aload_n 0, 1) := by decide +kernel
theorem dX11_blowItem_92 : decode cX11_blowItem 92 = .ok (.getfield 19, 3) := by decide +kernel
theorem dX11_blowItem_95 : decode cX11_blowItem 95 = .ok (.sipush 200, 3) := by decide +kernel
theorem dX11_blowItem_98 : decode cX11_blowItem 98 = .ok (.iconst 5, 1) := by decide +kernel
theorem dX11_blowItem_99 : decode cX11_blowItem 99 = .ok (.iload_n 1, 1) := by decide +kernel
theorem dX11_blowItem_100 : decode cX11_blowItem 100 = .ok (.imul, 1) := by decide +kernel
theorem dX11_blowItem_101 : decode cX11_blowItem 101 = .ok (.iadd, 1) := by decide +kernel
theorem dX11_blowItem_102 : decode cX11_blowItem 102 = .ok (.iload_n 2, 1) := by decide +kernel
theorem dX11_blowItem_103 : decode cX11_blowItem 103 = .ok (.iadd, 1) := by decide +kernel
theorem dX11_blowItem_104 : decode cX11_blowItem 104 = .ok (.aload_n 0, 1) := by decide +kernel
theorem dX11_blowItem_105 : decode cX11_blowItem 105 = .ok (.getfield 52, 3) := by decide +kernel
theorem dX11_blowItem_108 : decode cX11_blowItem 108 = .ok (.iload_n 2, 1) := by decide +kernel
theorem dX11_blowItem_109 : decode cX11_blowItem 109 = .ok (.iaload, 1) := by decide +kernel
theorem dX11_blowItem_110 : decode cX11_blowItem 110 = .ok (.iastore, 1) := by decide +kernel
theorem dX11_blowItem_111 : decode cX11_blowItem 111 = .ok (.iinc 2 1, 3) := by decide +kernel
theorem dX11_blowItem_114 : decode cX11_blowItem 114 = .ok (.goto (-28), 3) := by decide +kernel
theorem dX11_blowItem_117 : decode cX11_blowItem 117 = .ok (.aload_n 0, 1) := by decide +kernel
theorem dX11_blowItem_118 : decode cX11_blowItem 118 = .ok (.getfield 16, 3) := by decide +kernel
theorem dX11_blowItem_121 : decode cX11_blowItem 121 = .ok (.iconst 1, 1) := by decide +kernel
theorem dX11_blowItem_122 : decode cX11_blowItem 122 = .ok (.dup2, 1) := by decide +kernel
theorem dX11_blowItem_123 : decode cX11_blowItem 123 = .ok (.iaload, 1) := by decide +kernel
theorem dX11_blowItem_124 : decode cX11_blowItem 124 = .ok (.iconst 1, 1) := by decide +kernel
theorem dX11_blowItem_125 : decode cX11_blowItem 125 = .ok (.iadd, 1) := by decide +kernel
theorem dX11_blowItem_126 : decode cX11_blowItem 126 = .ok (.iastore, 1) := by decide +kernel
theorem dX11_blowItem_127 : decode cX11_blowItem 127 = .ok (.iconst 1, 1) := by decide +kernel
theorem dX11_blowItem_128 : decode cX11_blowItem 128 = .ok (.ireturn, 1) := by decide +kernel
set_option maxRecDepth 20000 in
theorem ggX11_judgeItem_X11_figures : GoodIn wsX11_judgeItem wsX11_figures := goodIn_r _ [9, 10, 11, 12, 13, 2, 14, 15, 16, 8, 17, 18, 19, 20, 21, 22, 23, 24, 25, 26, 27, 28, 29, 30, 31, 32, 33, 34, 35, 36, 37, 38, 39, 40, 41, 42, 43, 44, 45, 46] (by decide +kernel) (by decide +kernel)
set_option maxRecDepth 20000 in
theorem gX11_judgeItem_X11_figures : GoodIn wsX11_judgeItem (wsV RX11 103 RX11 yX11_figures wsX11_figures) := goodIn_app (goodIn_of _ (by decide +kernel)) ggX11_judgeItem_X11_figures
set_option maxRecDepth 20000 in
theorem ggX11_judgeItem_X11_in : GoodIn wsX11_judgeItem wsX11_in := goodIn_r _ [22] (by decide +kernel) (by decide +kernel)
set_option maxRecDepth 20000 in
theorem gX11_judgeItem_X11_in : GoodIn wsX11_judgeItem (va_wsS RX11 80 yX11_in wsX11_in) := goodIn_app (goodIn_of _ (by decide +kernel)) ggX11_judgeItem_X11_in
theorem dX11_judgeItem_0 : decode cX11_judgeItem 0 = .ok (.aload_n 0, 1) := by decide +kernel
theorem dX11_judgeItem_1 : decode cX11_judgeItem 1 = .ok (.getfield 37, 3) := by decide +kernel
theorem dX11_judgeItem_4 : decode cX11_judgeItem 4 = .ok (.iconst 1, 1) := by decide +kernel
theorem dX11_judgeItem_5 : decode cX11_judgeItem 5 = .ok (.iaload, 1) := by decide +kernel
theorem dX11_judgeItem_6 : decode cX11_judgeItem 6 = .ok (.istore_n 1, 1) := by decide +kernel
theorem dX11_judgeItem_7 : decode cX11_judgeItem 7 = .ok (.aload_n 0, 1) := by decide +kernel
theorem dX11_judgeItem_8 : decode cX11_judgeItem 8 = .ok (.bipush 7, 2) := by decide +kernel
theorem dX11_judgeItem_10 : decode cX11_judgeItem 10 = .ok (.invokevirtual 103, 3) := by decide +kernel
theorem dX11_judgeItem_13 : decode cX11_judgeItem 13 = .ok (.ifCond .eq 93, 3) := by decide +kernel
theorem dX11_judgeItem_16 : decode cX11_judgeItem 16 = .ok (.iload_n 1, 1) := by decide +kernel
theorem dX11_judgeItem_17 : decode cX11_judgeItem 17 = .ok (.bipush 8, 2) := by decide +kernel
theorem dX11_judgeItem_19 : decode cX11_judgeItem 19 = .ok (.if_icmp .eq 87, 3) := by decide +kernel
theorem dX11_judgeItem_22 : decode cX11_judgeItem 22 = .ok (.aload_n 0, 1) := by decide +kernel
theorem dX11_judgeItem_23 : decode cX11_judgeItem 23 = .ok (.getfield 52, 3) := by decide +kernel
theorem dX11_judgeItem_26 : decode cX11_judgeItem 26 = .ok (.iconst 0, 1) := by decide +kernel
theorem dX11_judgeItem_27 : decode cX11_judgeItem 27 = .ok (.iaload, 1) := by decide +kernel
theorem dX11_judgeItem_28 : decode cX11_judgeItem 28 = .ok (.bipush 11, 2) := by decide +kernel
theorem dX11_judgeItem_30 : decode cX11_judgeItem 30 = .ok (.if_icmp .gt 76, 3) := by decide +kernel
theorem dX11_judgeItem_33 : decode cX11_judgeItem 33 = .ok (.aload_n 0, 1) := by decide +kernel
theorem dX11_judgeItem_34 : decode cX11_judgeItem 34 = .ok (.getfield 52, 3) := by decide +kernel
theorem dX11_judgeItem_37 : decode cX11_judgeItem 37 = .ok (.iconst 1, 1) := by decide +kernel
theorem dX11_judgeItem_38 : decode cX11_judgeItem 38 = .ok (.iaload, 1) := by decide +kernel
theorem dX11_judgeItem_39 : decode cX11_judgeItem 39 = .ok (.bipush 9, 2) := by decide +kernel
theorem dX11_judgeItem_41 : decode cX11_judgeItem 41 = .ok (.if_icmp .gt 65, 3) := by decide +kernel
theorem dX11_judgeItem_44 : decode cX11_judgeItem 44 = .ok (.aload_n 0, 1) := by decide +kernel
theorem dX11_judgeItem_45 : decode cX11_judgeItem 45 = .ok (.getfield 52, 3) := by decide +kernel
theorem dX11_judgeItem_48 : decode cX11_judgeItem 48 = .ok (.iconst 2, 1) := by decide +kernel
theorem dX11_judgeItem_49 : decode cX11_judgeItem 49 = .ok (.iaload, 1) := by decide +kernel
theorem dX11_judgeItem_50 : decode cX11_judgeItem 50 = .ok (.bipush 9, 2) := by decide +kernel
theorem dX11_judgeItem_52 : decode cX11_judgeItem 52 = .ok (.if_icmp .gt 54, 3) := by decide +kernel
theorem dX11_judgeItem_55 : decode cX11_judgeItem 55 = .ok (.aload_n 0, 1) := by decide +kernel
theorem dX11_judgeItem_56 : decode cX11_judgeItem 56 = .ok (.getfield 52, 3) := by decide +kernel
theorem dX11_judgeItem_59 : decode cX11_judgeItem 59 = .ok (.iconst 3, 1) := by decide +kernel
theorem dX11_judgeItem_60 : decode cX11_judgeItem 60 = .ok (.iaload, 1) := by decide +kernel
theorem dX11_judgeItem_61 : decode cX11_judgeItem 61 = .ok (.bipush 40, 2) := by decide +kernel
theorem dX11_judgeItem_63 : decode cX11_judgeItem 63 = .ok (.if_icmp .gt 43, 3) := by decide +kernel
theorem dX11_judgeItem_66 : decode cX11_judgeItem 66 = .ok (.aload_n 0, 1) := by decide +kernel
theorem dX11_judgeItem_67 : decode cX11_judgeItem 67 = .ok (.getfield 52, 3) := by decide +kernel
theorem dX11_judgeItem_70 : decode cX11_judgeItem 70 = .ok (.iconst 4, 1) := by decide +kernel
theorem dX11_judgeItem_71 : decode cX11_judgeItem 71 = .ok (.iaload, 1) := by decide +kernel
theorem dX11_judgeItem_72 : decode cX11_judgeItem 72 = .ok (.i2l, 1) := by decide +kernel
theorem dX11_judgeItem_73 : decode cX11_judgeItem 73 = .ok (.lconst 1, 1) := by decide +kernel
theorem dX11_judgeItem_74 : decode cX11_judgeItem 74 = .ok (.ldc2_w 107, 3) := by decide +kernel
theorem dX11_judgeItem_77 : decode cX11_judgeItem 77 = .ok (.invokestatic 80, 3) := by decide +kernel
theorem dX11_judgeItem_80 : decode cX11_judgeItem 80 = .ok (.ifCond .eq 26, 3) := by decide +kernel
theorem dX11_judgeItem_83 : decode cX11_judgeItem 83 = .ok (.aload_n 0, 1) := by decide +kernel
theorem dX11_judgeItem_84 : decode cX11_judgeItem 84 = .ok (.getfield 52, 3) := by decide +kernel
theorem dX11_judgeItem_87 : decode cX11_judgeItem 87 = .ok (.iconst 5, 1) := by decide +kernel
theorem dX11_judgeItem_88 : decode cX11_judgeItem 88 = .ok (.iaload, 1) := by decide +kernel
theorem dX11_judgeItem_89 : decode cX11_judgeItem 89 = .ok (.bipush 9, 2) := by decide +kernel
theorem dX11_judgeItem_91 : decode cX11_judgeItem 91 = .ok (.if_icmp .gt 15, 3) := by decide +kernel
theorem dX11_judgeItem_94 : decode cX11_judgeItem 94 = .ok (.aload_n 0, 1) := by decide +kernel
theorem dX11_judgeItem_95 : decode cX11_judgeItem 95 = .ok (.getfield 52, 3) := by decide +kernel
theorem dX11_judgeItem_98 : decode cX11_judgeItem 98 = .ok (.bipush 6, 2) := by decide +kernel
theorem dX11_judgeItem_100 : decode cX11_judgeItem 100 = .ok (.iaload, 1) := by decide +kernel
theorem dX11_judgeItem_101 : decode cX11_judgeItem 101 = .ok (.bipush 99, 2) := by decide +kernel
theorem dX11_judgeItem_103 : decode cX11_judgeItem 103 = .ok (.if_icmp .le 5, 3) := by decide +kernel
theorem dX11_judgeItem_106 : decode cX11_judgeItem 106 = .ok (.iconst 0, 1) := by decide +kernel
theorem dX11_judgeItem_107 : decode cX11_judgeItem 107 = .ok (.ireturn, 1) := by decide +kernel
theorem dX11_judgeItem_108 : decode cX11_judgeItem 108 = .ok (.iconst 0, 1) := by decide +kernel
theorem dX11_judgeItem_109 : decode cX11_judgeItem 109 = .ok (.istore_n 2, 1) := by decide +kernel
theorem dX11_judgeItem_110 : decode cX11_judgeItem 110 = .ok (.iload_n 2, 1) := by decide +kernel
theorem dX11_judgeItem_111 : decode cX11_judgeItem 111 = .ok (.bipush 7, 2) := by decide +kernel
theorem dX11_judgeItem_113 : decode cX11_judgeItem 113 = .ok (.if_icmp .ge 29, 3) := by decide +kernel
theorem dX11_judgeItem_116 : decode cX11_judgeItem 116 = .ok (.aload_n 0, 1) := by decide +kernel
theorem dX11_judgeItem_117 : decode cX11_judgeItem 117 = .ok (.getfield 40, 3) := by decide +kernel
theorem dX11_judgeItem_120 : decode cX11_judgeItem 120 = .ok (.bipush 56, 2) := by decide +kernel
theorem dX11_judgeItem_122 : decode cX11_judgeItem 122 = .ok (.bipush 7, 2) := by decide +kernel
theorem dX11_judgeItem_124 : decode cX11_judgeItem 124 = .ok (.iload_n 1, 1) := by decide +kernel
theorem dX11_judgeItem_125 : decode cX11_judgeItem 125 = .ok (.imul, 1) := by decide +kernel
theorem dX11_judgeItem_126 : decode cX11_judgeItem 126 = .ok (.iadd, 1) := by decide +kernel
theorem dX11_judgeItem_127 : decode cX11_judgeItem 127 = .ok (.iload_n 2, 1) := by decide +kernel
theorem dX11_judgeItem_128 : decode cX11_judgeItem 128 = .ok (.iadd, 1) := by decide +kernel
theorem dX11_judgeItem_129 : decode cX11_judgeItem 129 = .ok (.aload_n 0, 1) := by decide +kernel
theorem dX11_judgeItem_130 : decode cX11_judgeItem 130 = .ok (.getfield 52, 3) := by decide +kernel
theorem dX11_judgeItem_133 : decode cX11_judgeItem 133 = .ok (.iload_n 2, 1) := by decide +kernel
theorem dX11_judgeItem_134 : decode cX11_judgeItem 134 = .ok (.iaload, 1) := by decide +kernel
theorem dX11_judgeItem_135 : decode cX11_judgeItem 135 = .ok (.iastore, 1) := by decide +kernel
theorem dX11_judgeItem_136 : decode cX11_judgeItem 136 = .ok (.iinc 2 1, 3) := by decide +kernel
theorem dX11_judgeItem_139 : decode cX11_judgeItem 139 = .ok (.goto (-29), 3) := by decide +kernel
theorem dX11_judgeItem_142 : decode cX11_judgeItem 142 = .ok (.aload_n 0, 1) := by decide +kernel
theorem dX11_judgeItem_143 : decode cX11_judgeItem 143 = .ok (.getfield 37, 3) := by decide +kernel
theorem dX11_judgeItem_146 : decode cX11_judgeItem 146 = .ok (.iconst 1, 1) := by decide +kernel
theorem dX11_judgeItem_147 : decode cX11_judgeItem 147 = .ok (.dup2, 1) := by decide +kernel
theorem dX11_judgeItem_148 : decode cX11_judgeItem 148 = .ok (.iaload, 1) := by decide +kernel
theorem dX11_judgeItem_149 : decode cX11_judgeItem 149 = .ok (.iconst 1, 1) := by decide +kernel
theorem dX11_judgeItem_150 : decode cX11_judgeItem 150 = .ok (.iadd, 1) := by decide +kernel
theorem dX11_judgeItem_151 : decode cX11_judgeItem 151 = .ok (.iastore, 1) := by decide +kernel
theorem dX11_judgeItem_152 : decode cX11_judgeItem 152 = .ok (.iconst 1, 1) := by decide +kernel
theorem dX11_judgeItem_153 : decode cX11_judgeItem 153 = .ok (.ireturn, 1) := by decide +kernel
set_option maxRecDepth 20000 in
theorem ggX11_more_X11_figures : GoodIn wsX11_more wsX11_figures := goodIn_r _ [6, 7, 8, 9, 10, 1, 11, 12, 13, 5, 14, 15, 16, 17, 18, 19, 20, 21, 22, 23, 24, 25, 26, 27, 28, 29, 30, 31, 32, 33, 34, 35, 36, 37, 38, 39, 40, 41, 42, 43] (by decide +kernel) (by decide +kernel)
set_option maxRecDepth 20000 in
theorem gX11_more_X11_figures : GoodIn wsX11_more (wsV RX11 103 RX11 yX11_figures wsX11_figures) := goodIn_app (goodIn_of _ (by decide +kernel)) ggX11_more_X11_figures
theorem dX11_more_0 : decode cX11_more 0 = .ok (.aload_n 0, 1) := by decide +kernel
theorem dX11_more_1 : decode cX11_more 1 = .ok (.iconst 2, 1) := by decide +kernel
theorem dX11_more_2 : decode cX11_more 2 = .ok (.invokevirtual 103, 3) := by decide +kernel
theorem dX11_more_5 : decode cX11_more 5 = .ok (.ifCond .eq 55, 3) := by decide +kernel
theorem dX11_more_8 : decode cX11_more 8 = .ok (.aload_n 0, 1) := by decide +kernel
theorem dX11_more_9 : decode cX11_more 9 = .ok (.getfield 52, 3) := by decide +kernel
theorem dX11_more_12 : decode cX11_more 12 = .ok (.iconst 0, 1) := by decide +kernel
theorem dX11_more_13 : decode cX11_more 13 = .ok (.iaload, 1) := by decide +kernel
theorem dX11_more_14 : decode cX11_more 14 = .ok (.bipush 11, 2) := by decide +kernel
theorem dX11_more_16 : decode cX11_more 16 = .ok (.if_icmp .gt 44, 3) := by decide +kernel
theorem dX11_more_19 : decode cX11_more 19 = .ok (.aload_n 0, 1) := by decide +kernel
theorem dX11_more_20 : decode cX11_more 20 = .ok (.getfield 52, 3) := by decide +kernel
theorem dX11_more_23 : decode cX11_more 23 = .ok (.iconst 1, 1) := by decide +kernel
theorem dX11_more_24 : decode cX11_more 24 = .ok (.iaload, 1) := by decide +kernel
theorem dX11_more_25 : decode cX11_more 25 = .ok (.iconst 1, 1) := by decide +kernel
theorem dX11_more_26 : decode cX11_more 26 = .ok (.if_icmp .gt 34, 3) := by decide +kernel
theorem dX11_more_29 : decode cX11_more 29 = .ok (.aload_n 1, 1) := by decide +kernel
theorem dX11_more_30 : decode cX11_more 30 = .ok (.bipush 24, 2) := by decide +kernel
theorem dX11_more_32 : decode cX11_more 32 = .ok (.iconst 2, 1) := by decide +kernel
theorem dX11_more_33 : decode cX11_more 33 = .ok (.aload_n 0, 1) := by decide +kernel
theorem dX11_more_34 : decode cX11_more 34 = .ok (.getfield 52, 3) := by decide +kernel
theorem dX11_more_37 : decode cX11_more 37 = .ok (.iconst 0, 1) := by decide +kernel
theorem dX11_more_38 : decode cX11_more 38 = .ok (.iaload, 1) := by decide +kernel
theorem dX11_more_39 : decode cX11_more 39 = .ok (.imul, 1) := by decide +kernel
theorem dX11_more_40 : decode cX11_more 40 = .ok (.iadd, 1) := by decide +kernel
theorem dX11_more_41 : decode cX11_more 41 = .ok (.iaload, 1) := by decide +kernel
theorem dX11_more_42 : decode cX11_more 42 = .ok (.aload_n 1, 1) := by decide +kernel
theorem dX11_more_43 : decode cX11_more 43 = .ok (.bipush 25, 2) := by decide +kernel
theorem dX11_more_45 : decode cX11_more 45 = .ok (.iconst 2, 1) := by decide +kernel
theorem dX11_more_46 : decode cX11_more 46 = .ok (.aload_n 0, 1) := by decide +kernel
theorem dX11_more_47 : decode cX11_more 47 = .ok (.getfield 52, 3) := by decide +kernel
theorem dX11_more_50 : decode cX11_more 50 = .ok (.iconst 0, 1) := by decide +kernel
theorem dX11_more_51 : decode cX11_more 51 = .ok (.iaload, 1) := by decide +kernel
theorem dX11_more_52 : decode cX11_more 52 = .ok (.imul, 1) := by decide +kernel
theorem dX11_more_53 : decode cX11_more 53 = .ok (.iadd, 1) := by decide +kernel
theorem dX11_more_54 : decode cX11_more 54 = .ok (.iaload, 1) := by decide +kernel
theorem dX11_more_55 : decode cX11_more 55 = .ok (.iadd, 1) := by decide +kernel
theorem dX11_more_56 : decode cX11_more 56 = .ok (.iconst 3, 1) := by decide +kernel
theorem dX11_more_57 : decode cX11_more 57 = .ok (.if_icmp .ne 5, 3) := by decide +kernel
theorem dX11_more_60 : decode cX11_more 60 = .ok (.iconst 0, 1) := by decide +kernel
theorem dX11_more_61 : decode cX11_more 61 = .ok (.ireturn, 1) := by decide +kernel
theorem dX11_more_62 : decode cX11_more 62 = .ok (.aload_n 1, 1) := by decide +kernel
theorem dX11_more_63 : decode cX11_more 63 = .ok (.bipush 24, 2) := by decide +kernel
theorem dX11_more_65 : decode cX11_more 65 = .ok (.iconst 2, 1) := by decide +kernel
theorem dX11_more_66 : decode cX11_more 66 = .ok (.aload_n 0, 1) := by decide +kernel
theorem dX11_more_67 : decode cX11_more 67 = .ok (.getfield 52, 3) := by decide +kernel
theorem dX11_more_70 : decode cX11_more 70 = .ok (.iconst 0, 1) := by decide +kernel
theorem dX11_more_71 : decode cX11_more 71 = .ok (.iaload, 1) := by decide +kernel
theorem dX11_more_72 : decode cX11_more 72 = .ok (.imul, 1) := by decide +kernel
theorem dX11_more_73 : decode cX11_more 73 = .ok (.iadd, 1) := by decide +kernel
theorem dX11_more_74 : decode cX11_more 74 = .ok (.aload_n 0, 1) := by decide +kernel
theorem dX11_more_75 : decode cX11_more 75 = .ok (.getfield 52, 3) := by decide +kernel
theorem dX11_more_78 : decode cX11_more 78 = .ok (.iconst 1, 1) := by decide +kernel
theorem dX11_more_79 : decode cX11_more 79 = .ok (.iaload, 1) := by decide +kernel
theorem dX11_more_80 : decode cX11_more 80 = .ok (.iadd, 1) := by decide +kernel
theorem dX11_more_81 : decode cX11_more 81 = .ok (.dup2, 1) := by decide +kernel
theorem dX11_more_82 : decode cX11_more 82 = .ok (.iaload, 1) := by decide +kernel
theorem dX11_more_83 : decode cX11_more 83 = .ok (.iconst 1, 1) := by decide +kernel
theorem dX11_more_84 : decode cX11_more 84 = .ok (.iadd, 1) := by decide +kernel
theorem dX11_more_85 : decode cX11_more 85 = .ok (.iastore, 1) := by decide +kernel
theorem dX11_more_86 : decode cX11_more 86 = .ok (.iconst 1, 1) := by decide +kernel
theorem dX11_more_87 : decode cX11_more 87 = .ok (.ireturn, 1) := by decide +kernel
set_option maxRecDepth 20000 in
theorem ggX11_item_X11_byteAt : GoodIn wsX11_item wsX11_byteAt := goodIn_r _ [14, 15, 16, 44, 45, 46, 47, 48, 49, 50, 51, 52, 53, 54, 55, 56, 57, 58, 59, 60, 61, 62, 63, 64, 65, 66, 67] (by decide +kernel) (by decide +kernel)
set_option maxRecDepth 20000 in
theorem gX11_item_X11_byteAt : GoodIn wsX11_item (wsV RX11 93 RX11 yX11_byteAt wsX11_byteAt) := goodIn_app (goodIn_of _ (by decide +kernel)) ggX11_item_X11_byteAt
set_option maxRecDepth 20000 in
theorem ggX11_item_X11_figures : GoodIn wsX11_item wsX11_figures := goodIn_r _ [20, 1, 21, 22, 23, 2, 10, 11, 12, 13, 14, 15, 16, 24, 25, 26, 44, 45, 46, 47, 48, 49, 50, 51, 52, 53, 54, 55, 56, 57, 58, 59, 60, 61, 62, 63, 64, 65, 66, 67] (by decide +kernel) (by decide +kernel)
set_option maxRecDepth 20000 in
theorem gX11_item_X11_figures : GoodIn wsX11_item (wsV RX11 103 RX11 yX11_figures wsX11_figures) := goodIn_app (goodIn_of _ (by decide +kernel)) ggX11_item_X11_figures
set_option maxRecDepth 20000 in
theorem ggX11_item_X11_in : GoodIn wsX11_item wsX11_in := goodIn_r _ [26] (by decide +kernel) (by decide +kernel)
set_option maxRecDepth 20000 in
theorem gX11_item_X11_in : GoodIn wsX11_item (va_wsS RX11 80 yX11_in wsX11_in) := goodIn_app (goodIn_of _ (by decide +kernel)) ggX11_item_X11_in
set_option maxRecDepth 20000 in
theorem ggX11_item_X11_blowItem : GoodIn wsX11_item wsX11_blowItem := goodIn_r _ [30, 31, 2, 32, 33, 17, 18, 19, 13, 20, 1, 21, 22, 23, 10, 11, 12, 14, 15, 16, 24, 25, 26, 44, 45, 46, 47, 48, 49, 50, 51, 52, 53, 54, 55, 56, 57, 58, 59, 60, 61, 62, 63, 64, 65, 66, 67] (by decide +kernel) (by decide +kernel)
set_option maxRecDepth 20000 in
theorem gX11_item_X11_blowItem : GoodIn wsX11_item (wsV RX11 111 RX11 yX11_blowItem wsX11_blowItem) := goodIn_app (goodIn_of _ (by decide +kernel)) ggX11_item_X11_blowItem
set_option maxRecDepth 20000 in
theorem ggX11_item_X11_more : GoodIn wsX11_item wsX11_more := goodIn_r _ [37, 2, 17, 18, 19, 13, 20, 1, 21, 22, 23, 10, 11, 12, 14, 15, 16, 24, 25, 26, 44, 45, 46, 47, 48, 49, 50, 51, 52, 53, 54, 55, 56, 57, 58, 59, 60, 61, 62, 63, 64, 65, 66, 67] (by decide +kernel) (by decide +kernel)
set_option maxRecDepth 20000 in
theorem gX11_item_X11_more : GoodIn wsX11_item (wsV RX11 115 RX11 yX11_more wsX11_more) := goodIn_app (goodIn_of _ (by decide +kernel)) ggX11_item_X11_more
set_option maxRecDepth 20000 in
theorem ggX11_item_X11_judgeItem : GoodIn wsX11_item wsX11_judgeItem := goodIn_r _ [41, 42, 2, 32, 43, 17, 18, 19, 13, 20, 1, 21, 22, 23, 10, 11, 12, 14, 15, 16, 24, 25, 26, 44, 45, 46, 47, 48, 49, 50, 51, 52, 53, 54, 55, 56, 57, 58, 59, 60, 61, 62, 63, 64, 65, 66, 67] (by decide +kernel) (by decide +kernel)
set_option maxRecDepth 20000 in
theorem gX11_item_X11_judgeItem : GoodIn wsX11_item (wsV RX11 119 RX11 yX11_judgeItem wsX11_judgeItem) := goodIn_app (goodIn_of _ (by decide +kernel)) ggX11_item_X11_judgeItem
theorem dX11_item_0 : decode cX11_item 0 = .ok (.aload_n 0, 1) := by decide +kernel
theorem dX11_item_1 : decode cX11_item 1 = .ok (.aload_n 0, 1) := by decide +kernel
theorem dX11_item_2 : decode cX11_item 2 = .ok (.getfield 90, 3) := by decide +kernel
theorem dX11_item_5 : decode cX11_item 5 = .ok (.invokevirtual 93, 3) := by decide +kernel
theorem dX11_item_8 : decode cX11_item 8 = .ok (.istore_n 1, 1) := by decide +kernel
theorem dX11_item_9 : decode cX11_item 9 = .ok (.aload_n 0, 1) := by decide +kernel
theorem dX11_item_10 : decode cX11_item 10 = .ok (.dup, 1) := by decide +kernel
theorem dX11_item_11 : decode cX11_item 11 = .ok (.getfield 90, 3) := by decide +kernel
theorem dX11_item_14 : decode cX11_item 14 = .ok (.iconst 1, 1) := by decide +kernel
theorem dX11_item_15 : decode cX11_item 15 = .ok (.iadd, 1) := by decide +kernel
theorem dX11_item_16 : decode cX11_item 16 = .ok (.putfield 90, 3) := by decide +kernel
theorem dX11_item_19 : decode cX11_item 19 = .ok (.iload_n 1, 1) := by decide +kernel
theorem dX11_item_20 : decode cX11_item 20 = .ok (.tableswitch 283 98 114 #[125, 283, 212, 283, 130, 283, 221, 283, 278, 203, 283, 283, 283, 283, 283, 283, 84], 84) := by decide +kernel
theorem dX11_item_104 : decode cX11_item 104 = .ok (.aload_n 0, 1) := by decide +kernel
theorem dX11_item_105 : decode cX11_item 105 = .ok (.iconst 1, 1) := by decide +kernel
theorem dX11_item_106 : decode cX11_item 106 = .ok (.invokevirtual 103, 3) := by decide +kernel
theorem dX11_item_109 : decode cX11_item 109 = .ok (.ifCond .eq 20, 3) := by decide +kernel
theorem dX11_item_112 : decode cX11_item 112 = .ok (.aload_n 0, 1) := by decide +kernel
theorem dX11_item_113 : decode cX11_item 113 = .ok (.getfield 52, 3) := by decide +kernel
theorem dX11_item_116 : decode cX11_item 116 = .ok (.iconst 0, 1) := by decide +kernel
theorem dX11_item_117 : decode cX11_item 117 = .ok (.iaload, 1) := by decide +kernel
theorem dX11_item_118 : decode cX11_item 118 = .ok (.i2l, 1) := by decide +kernel
theorem dX11_item_119 : decode cX11_item 119 = .ok (.lconst 1, 1) := by decide +kernel
theorem dX11_item_120 : decode cX11_item 120 = .ok (.ldc2_w 109, 3) := by decide +kernel
theorem dX11_item_123 : decode cX11_item 123 = .ok (.invokestatic 80, 3) := by decide +kernel
theorem dX11_item_126 : decode cX11_item 126 = .ok (.ifCond .ne 5, 3) := by decide +kernel
theorem dX11_item_129 : decode cX11_item 129 = .ok (.iconst 0, 1) := by decide +kernel
theorem dX11_item_130 : decode cX11_item 130 = .ok (.ireturn, 1) := by decide +kernel
theorem dX11_item_131 : decode cX11_item 131 = .ok (.aload_n 0, 1) := by decide +kernel
theorem dX11_item_132 : decode cX11_item 132 = .ok (.getfield 13, 3) := by decide +kernel
theorem dX11_item_135 : decode cX11_item 135 = .ok (.iconst 1, 1) := by decide +kernel
theorem dX11_item_136 : decode cX11_item 136 = .ok (.aload_n 0, 1) := by decide +kernel
theorem dX11_item_137 : decode cX11_item 137 = .ok (.getfield 52, 3) := by decide +kernel
theorem dX11_item_140 : decode cX11_item 140 = .ok (.iconst 0, 1) := by decide +kernel
theorem dX11_item_141 : decode cX11_item 141 = .ok (.iaload, 1) := by decide +kernel
theorem dX11_item_142 : decode cX11_item 142 = .ok (.iastore, 1) := by decide +kernel
theorem dX11_item_143 : decode cX11_item 143 = .ok (.iconst 1, 1) := by decide +kernel
theorem dX11_item_144 : decode cX11_item 144 = .ok (.ireturn, 1) := by decide +kernel
theorem dX11_item_145 : decode cX11_item 145 = .ok (.aload_n 0, 1) := by decide +kernel
theorem dX11_item_146 : decode cX11_item 146 = .ok (.invokevirtual 111, 3) := by decide +kernel
theorem dX11_item_149 : decode cX11_item 149 = .ok (.ireturn, 1) := by decide +kernel
theorem dX11_item_150 : decode cX11_item 150 = .ok (.aload_n 0, 1) := by decide +kernel
theorem dX11_item_151 : decode cX11_item 151 = .ok (.iconst 3, 1) := by decide +kernel
theorem dX11_item_152 : decode cX11_item 152 = .ok (.invokevirtual 103, 3) := by decide +kernel
theorem dX11_item_155 : decode cX11_item 155 = .ok (.ifCond .eq 35, 3) := by decide +kernel
theorem dX11_item_158 : decode cX11_item 158 = .ok (.aload_n 0, 1) := by decide +kernel
theorem dX11_item_159 : decode cX11_item 159 = .ok (.getfield 52, 3) := by decide +kernel
theorem dX11_item_162 : decode cX11_item 162 = .ok (.iconst 0, 1) := by decide +kernel
theorem dX11_item_163 : decode cX11_item 163 = .ok (.iaload, 1) := by decide +kernel
theorem dX11_item_164 : decode cX11_item 164 = .ok (.bipush 11, 2) := by decide +kernel
theorem dX11_item_166 : decode cX11_item 166 = .ok (.if_icmp .gt 24, 3) := by decide +kernel
theorem dX11_item_169 : decode cX11_item 169 = .ok (.aload_n 0, 1) := by decide +kernel
theorem dX11_item_170 : decode cX11_item 170 = .ok (.getfield 52, 3) := by decide +kernel
theorem dX11_item_173 : decode cX11_item 173 = .ok (.iconst 1, 1) := by decide +kernel
theorem dX11_item_174 : decode cX11_item 174 = .ok (.iaload, 1) := by decide +kernel
theorem dX11_item_175 : decode cX11_item 175 = .ok (.iconst 1, 1) := by decide +kernel
theorem dX11_item_176 : decode cX11_item 176 = .ok (.if_icmp .gt 14, 3) := by decide +kernel
theorem dX11_item_179 : decode cX11_item 179 = .ok (.aload_n 0, 1) := by decide +kernel
theorem dX11_item_180 : decode cX11_item 180 = .ok (.getfield 52, 3) := by decide +kernel
theorem dX11_item_183 : decode cX11_item 183 = .ok (.iconst 2, 1) := by decide +kernel
theorem dX11_item_184 : decode cX11_item 184 = .ok (.iaload, 1) := by decide +kernel
theorem dX11_item_185 : decode cX11_item 185 = .ok (.bipush 9, 2) := by decide +kernel
theorem dX11_item_187 : decode cX11_item 187 = .ok (.if_icmp .le 5, 3) := by decide +kernel
theorem dX11_item_190 : decode cX11_item 190 = .ok (.iconst 0, 1) := by decide +kernel
theorem dX11_item_191 : decode cX11_item 191 = .ok (.ireturn, 1) := by decide +kernel
theorem dX11_item_192 : decode cX11_item 192 = .ok (.aload_n 0, 1) := by decide +kernel
theorem dX11_item_193 : decode cX11_item 193 = .ok (.getfield 22, 3) := by decide +kernel
theorem dX11_item_196 : decode cX11_item 196 = .ok (.bipush 24, 2) := by decide +kernel
theorem dX11_item_198 : decode cX11_item 198 = .ok (.iconst 2, 1) := by decide +kernel
theorem dX11_item_199 : decode cX11_item 199 = .ok (.aload_n 0, 1) := by decide +kernel
theorem dX11_item_200 : decode cX11_item 200 = .ok (.getfield 52, 3) := by decide +kernel
theorem dX11_item_203 : decode cX11_item 203 = .ok (.iconst 0, 1) := by decide +kernel
theorem dX11_item_204 : decode cX11_item 204 = .ok (.iaload, 1) := by decide +kernel
theorem dX11_item_205 : decode cX11_item 205 = .ok (.imul, 1) := by decide +kernel
theorem dX11_item_206 : decode cX11_item 206 = .ok (.iadd, 1) := by decide +kernel
theorem dX11_item_207 : decode cX11_item 207 = .ok (.aload_n 0, 1) := by decide +kernel
theorem dX11_item_208 : decode cX11_item 208 = .ok (.getfield 52, 3) := by decide +kernel
theorem dX11_item_211 : decode cX11_item 211 = .ok (.iconst 1, 1) := by decide +kernel
theorem dX11_item_212 : decode cX11_item 212 = .ok (.iaload, 1) := by decide +kernel
theorem dX11_item_213 : decode cX11_item 213 = .ok (.iadd, 1) := by decide +kernel
theorem dX11_item_214 : decode cX11_item 214 = .ok (.aload_n 0, 1) := by decide +kernel
theorem dX11_item_215 : decode cX11_item 215 = .ok (.getfield 52, 3) := by decide +kernel
theorem dX11_item_218 : decode cX11_item 218 = .ok (.iconst 2, 1) := by decide +kernel
theorem dX11_item_219 : decode cX11_item 219 = .ok (.iaload, 1) := by decide +kernel
theorem dX11_item_220 : decode cX11_item 220 = .ok (.iastore, 1) := by decide +kernel
theorem dX11_item_221 : decode cX11_item 221 = .ok (.iconst 1, 1) := by decide +kernel
theorem dX11_item_222 : decode cX11_item 222 = .ok (.ireturn, 1) := by decide +kernel
theorem dX11_item_223 : decode cX11_item 223 = .ok (.aload_n 0, 1) := by decide +kernel
theorem dX11_item_224 : decode cX11_item 224 = .ok (.aload_n 0, 1) := by decide +kernel
theorem dX11_item_225 : decode cX11_item 225 = .ok (.getfield 25, 3) := by decide +kernel
theorem dX11_item_228 : decode cX11_item 228 = .ok (.invokevirtual 115, 3) := by decide +kernel
theorem dX11_item_231 : decode cX11_item 231 = .ok (.ireturn, 1) := by decide +kernel
theorem dX11_item_232 : decode cX11_item 232 = .ok (.aload_n 0, 1) := by decide +kernel
theorem dX11_item_233 : decode cX11_item 233 = .ok (.aload_n 0, 1) := by decide +kernel
theorem dX11_item_234 : decode cX11_item 234 = .ok (.getfield 28, 3) := by decide +kernel
theorem dX11_item_237 : decode cX11_item 237 = .ok (.invokevirtual 115, 3) := by decide +kernel
theorem dX11_item_240 : decode cX11_item 240 = .ok (.ireturn, 1) := by decide +kernel
theorem dX11_item_241 : decode cX11_item 241 = .ok (.aload_n 0, 1) := by decide +kernel
theorem dX11_item_242 : decode cX11_item 242 = .ok (.iconst 2, 1) := by decide +kernel
theorem dX11_item_243 : decode cX11_item 243 = .ok (.invokevirtual 103, 3) := by decide +kernel
theorem dX11_item_246 : decode cX11_item 246 = .ok (.ifCond .eq 24, 3) := by decide +kernel
theorem dX11_item_249 : decode cX11_item 249 = .ok (.aload_n 0, 1) := by decide +kernel
theorem dX11_item_250 : decode cX11_item 250 = .ok (.getfield 52, 3) := by decide +kernel
theorem dX11_item_253 : decode cX11_item 253 = .ok (.iconst 0, 1) := by decide +kernel
theorem dX11_item_254 : decode cX11_item 254 = .ok (.iaload, 1) := by decide +kernel
theorem dX11_item_255 : decode cX11_item 255 = .ok (.iconst 1, 1) := by decide +kernel
theorem dX11_item_256 : decode cX11_item 256 = .ok (.if_icmp .gt 14, 3) := by decide +kernel
theorem dX11_item_259 : decode cX11_item 259 = .ok (.aload_n 0, 1) := by decide +kernel
theorem dX11_item_260 : decode cX11_item 260 = .ok (.getfield 52, 3) := by decide +kernel
theorem dX11_item_263 : decode cX11_item 263 = .ok (.iconst 1, 1) := by decide +kernel
theorem dX11_item_264 : decode cX11_item 264 = .ok (.iaload, 1) := by decide +kernel
theorem dX11_item_265 : decode cX11_item 265 = .ok (.bipush 9, 2) := by decide +kernel
theorem dX11_item_267 : decode cX11_item 267 = .ok (.if_icmp .le 5, 3) := by decide +kernel
theorem dX11_item_270 : decode cX11_item 270 = .ok (.iconst 0, 1) := by decide +kernel
theorem dX11_item_271 : decode cX11_item 271 = .ok (.ireturn, 1) := by decide +kernel
theorem dX11_item_272 : decode cX11_item 272 = .ok (.aload_n 0, 1) := by decide +kernel
theorem dX11_item_273 : decode cX11_item 273 = .ok (.getfield 31, 3) := by decide +kernel
theorem dX11_item_276 : decode cX11_item 276 = .ok (.iconst 1, 1) := by decide +kernel
theorem dX11_item_277 : decode cX11_item 277 = .ok (.aload_n 0, 1) := by decide +kernel
theorem dX11_item_278 : decode cX11_item 278 = .ok (.getfield 52, 3) := by decide +kernel
theorem dX11_item_281 : decode cX11_item 281 = .ok (.iconst 0, 1) := by decide +kernel
theorem dX11_item_282 : decode cX11_item 282 = .ok (.iaload, 1) := by decide +kernel
theorem dX11_item_283 : decode cX11_item 283 = .ok (.iastore, 1) := by decide +kernel
theorem dX11_item_284 : decode cX11_item 284 = .ok (.aload_n 0, 1) := by decide +kernel
theorem dX11_item_285 : decode cX11_item 285 = .ok (.getfield 34, 3) := by decide +kernel
theorem dX11_item_288 : decode cX11_item 288 = .ok (.iconst 1, 1) := by decide +kernel
theorem dX11_item_289 : decode cX11_item 289 = .ok (.aload_n 0, 1) := by decide +kernel
theorem dX11_item_290 : decode cX11_item 290 = .ok (.getfield 52, 3) := by decide +kernel
theorem dX11_item_293 : decode cX11_item 293 = .ok (.iconst 1, 1) := by decide +kernel
theorem dX11_item_294 : decode cX11_item 294 = .ok (.iaload, 1) := by decide +kernel
theorem dX11_item_295 : decode cX11_item 295 = .ok (.iastore, 1) := by decide +kernel
theorem dX11_item_296 : decode cX11_item 296 = .ok (.iconst 1, 1) := by decide +kernel
theorem dX11_item_297 : decode cX11_item 297 = .ok (.ireturn, 1) := by decide +kernel
theorem dX11_item_298 : decode cX11_item 298 = .ok (.aload_n 0, 1) := by decide +kernel
theorem dX11_item_299 : decode cX11_item 299 = .ok (.invokevirtual 119, 3) := by decide +kernel
theorem dX11_item_302 : decode cX11_item 302 = .ok (.ireturn, 1) := by decide +kernel
theorem dX11_item_303 : decode cX11_item 303 = .ok (.iconst 0, 1) := by decide +kernel
theorem dX11_item_304 : decode cX11_item 304 = .ok (.ireturn, 1) := by decide +kernel
set_option maxRecDepth 20000 in
theorem ggX11_readAll_X11_noFight : GoodIn wsX11_readAll wsX11_noFight := goodIn_r _ [7, 8, 9, 10, 11, 12, 13, 14, 15, 52, 53, 54, 55, 56, 57, 58, 59, 60, 61, 62, 63, 64, 65, 66, 67, 68, 69, 70, 71, 72, 73, 74, 75] (by decide +kernel) (by decide +kernel)
set_option maxRecDepth 20000 in
theorem gX11_readAll_X11_noFight : GoodIn wsX11_readAll (wsV RX11 74 RX11 yX11_noFight wsX11_noFight) := goodIn_app (goodIn_of _ (by decide +kernel)) ggX11_readAll_X11_noFight
set_option maxRecDepth 20000 in
theorem ggX11_readAll_X11_item : GoodIn wsX11_readAll wsX11_item := goodIn_r _ [19, 1, 20, 21, 8, 13, 14, 15, 11, 12, 22, 23, 24, 6, 25, 2, 26, 27, 28, 29, 30, 31, 32, 33, 34, 35, 36, 37, 38, 39, 40, 9, 41, 42, 43, 44, 45, 46, 47, 48, 49, 50, 10, 51, 52, 53, 54, 55, 56, 57, 58, 59, 60, 61, 62, 63, 64, 65, 66, 67, 68, 69, 70, 71, 72, 73, 74, 75] (by decide +kernel) (by decide +kernel)
set_option maxRecDepth 20000 in
theorem gX11_readAll_X11_item : GoodIn wsX11_readAll (wsV RX11 122 RX11 yX11_item wsX11_item) := goodIn_app (goodIn_of _ (by decide +kernel)) ggX11_readAll_X11_item
theorem dX11_readAll_0 : decode cX11_readAll 0 = .ok (.aload_n 0, 1) := by decide +kernel
theorem dX11_readAll_1 : decode cX11_readAll 1 = .ok (.iconst 1, 1) := by decide +kernel
theorem dX11_readAll_2 : decode cX11_readAll 2 = .ok (.invokevirtual 74, 3) := by decide +kernel
theorem dX11_readAll_5 : decode cX11_readAll 5 = .ok (.aload_n 0, 1) := by decide +kernel
theorem dX11_readAll_6 : decode cX11_readAll 6 = .ok (.iconst 0, 1) := by decide +kernel
theorem dX11_readAll_7 : decode cX11_readAll 7 = .ok (.putfield 90, 3) := by decide +kernel
theorem dX11_readAll_10 : decode cX11_readAll 10 = .ok (.aload_n 0, 1) := by decide +kernel
theorem dX11_readAll_11 : decode cX11_readAll 11 = .ok (.getfield 90, 3) := by decide +kernel
theorem dX11_readAll_14 : decode cX11_readAll 14 = .ok (.aload_n 0, 1) := by decide +kernel
theorem dX11_readAll_15 : decode cX11_readAll 15 = .ok (.getfield 84, 3) := by decide +kernel
theorem dX11_readAll_18 : decode cX11_readAll 18 = .ok (.if_icmp .ge 20, 3) := by decide +kernel
theorem dX11_readAll_21 : decode cX11_readAll 21 = .ok (.aload_n 0, 1) := by decide +kernel
theorem dX11_readAll_22 : decode cX11_readAll 22 = .ok (.getfield 90, 3) := by decide +kernel
theorem dX11_readAll_25 : decode cX11_readAll 25 = .ok (.istore_n 1, 1) := by decide +kernel
theorem dX11_readAll_26 : decode cX11_readAll 26 = .ok (.aload_n 0, 1) := by decide +kernel
theorem dX11_readAll_27 : decode cX11_readAll 27 = .ok (.invokevirtual 122, 3) := by decide +kernel
theorem dX11_readAll_30 : decode cX11_readAll 30 = .ok (.ifCond .ne 5, 3) := by decide +kernel
theorem dX11_readAll_33 : decode cX11_readAll 33 = .ok (.iload_n 1, 1) := by decide +kernel
theorem dX11_readAll_34 : decode cX11_readAll 34 = .ok (.ireturn, 1) := by decide +kernel
theorem dX11_readAll_35 : decode cX11_readAll 35 = .ok (.goto (-25), 3) := by decide +kernel
theorem dX11_readAll_38 : decode cX11_readAll 38 = .ok (.bipush (-4), 2) := by decide +kernel
theorem dX11_readAll_40 : decode cX11_readAll 40 = .ok (.ireturn, 1) := by decide +kernel
set_option maxRecDepth 20000 in
theorem ggX11_fault_X11_readAll : GoodIn wsX11_fault wsX11_readAll := goodIn_r _ [5, 6, 7, 8, 9, 10, 4, 11, 12, 13, 14, 15, 16, 17, 18, 19, 20, 21, 22, 23, 24, 25, 26, 27, 28, 29, 30, 31, 32, 33, 34, 35, 36, 37, 38, 39, 40, 41, 42, 43, 44, 45, 46, 47, 48, 49, 50, 51, 52, 53, 54, 55, 56, 57, 58, 59, 60, 61, 62, 63, 64, 65, 66, 67, 68, 69, 70, 71, 72, 73, 74, 75, 76, 77, 78, 79] (by decide +kernel) (by decide +kernel)
set_option maxRecDepth 20000 in
theorem gX11_fault_X11_readAll : GoodIn wsX11_fault (wsV RX11 125 RX11 yX11_readAll wsX11_readAll) := goodIn_app (goodIn_of _ (by decide +kernel)) ggX11_fault_X11_readAll
theorem dX11_fault_0 : decode cX11_fault 0 = .ok (.aload_n 0, 1) := by decide +kernel
theorem dX11_fault_1 : decode cX11_fault 1 = .ok (.invokevirtual 125, 3) := by decide +kernel
theorem dX11_fault_4 : decode cX11_fault 4 = .ok (.ireturn, 1) := by decide +kernel
set_option maxRecDepth 20000 in
theorem ggX11_lay_X11_readAll : GoodIn wsX11_lay wsX11_readAll := goodIn_r _ [17, 18, 19, 20, 21, 22, 16, 23, 2, 3, 1, 4, 5, 8, 9, 10, 24, 25, 26, 27, 28, 29, 30, 31, 32, 33, 34, 35, 36, 37, 38, 39, 40, 41, 42, 43, 44, 45, 46, 47, 48, 49, 6, 50, 51, 52, 53, 54, 55, 56, 57, 7, 58, 59, 60, 61, 62, 63, 64, 65, 66, 67, 68, 69, 70, 71, 72, 73, 74, 75, 76, 77, 78, 79, 80, 81] (by decide +kernel) (by decide +kernel)
set_option maxRecDepth 20000 in
theorem gX11_lay_X11_readAll : GoodIn wsX11_lay (wsV RX11 125 RX11 yX11_readAll wsX11_readAll) := goodIn_app (goodIn_of _ (by decide +kernel)) ggX11_lay_X11_readAll
theorem dX11_lay_0 : decode cX11_lay 0 = .ok (.aload_n 0, 1) := by decide +kernel
theorem dX11_lay_1 : decode cX11_lay 1 = .ok (.invokevirtual 125, 3) := by decide +kernel
theorem dX11_lay_4 : decode cX11_lay 4 = .ok (.bipush (-4), 2) := by decide +kernel
theorem dX11_lay_6 : decode cX11_lay 6 = .ok (.if_icmp .ne 13, 3) := by decide +kernel
theorem dX11_lay_9 : decode cX11_lay 9 = .ok (.aload_n 0, 1) := by decide +kernel
theorem dX11_lay_10 : decode cX11_lay 10 = .ok (.getfield 37, 3) := by decide +kernel
theorem dX11_lay_13 : decode cX11_lay 13 = .ok (.iconst 1, 1) := by decide +kernel
theorem dX11_lay_14 : decode cX11_lay 14 = .ok (.iaload, 1) := by decide +kernel
theorem dX11_lay_15 : decode cX11_lay 15 = .ok (.iconst 3, 1) := by decide +kernel
theorem dX11_lay_16 : decode cX11_lay 16 = .ok (.if_icmp .ge 6, 3) := by decide +kernel
theorem dX11_lay_19 : decode cX11_lay 19 = .ok (.bipush (-2), 2) := by decide +kernel
theorem dX11_lay_21 : decode cX11_lay 21 = .ok (.ireturn, 1) := by decide +kernel
theorem dX11_lay_22 : decode cX11_lay 22 = .ok (.aload_n 0, 1) := by decide +kernel
theorem dX11_lay_23 : decode cX11_lay 23 = .ok (.getfield 13, 3) := by decide +kernel
theorem dX11_lay_26 : decode cX11_lay 26 = .ok (.iconst 0, 1) := by decide +kernel
theorem dX11_lay_27 : decode cX11_lay 27 = .ok (.aload_n 0, 1) := by decide +kernel
theorem dX11_lay_28 : decode cX11_lay 28 = .ok (.getfield 13, 3) := by decide +kernel
theorem dX11_lay_31 : decode cX11_lay 31 = .ok (.iconst 1, 1) := by decide +kernel
theorem dX11_lay_32 : decode cX11_lay 32 = .ok (.iaload, 1) := by decide +kernel
theorem dX11_lay_33 : decode cX11_lay 33 = .ok (.iastore, 1) := by decide +kernel
theorem dX11_lay_34 : decode cX11_lay 34 = .ok (.aload_n 0, 1) := by decide +kernel
theorem dX11_lay_35 : decode cX11_lay 35 = .ok (.getfield 16, 3) := by decide +kernel
theorem dX11_lay_38 : decode cX11_lay 38 = .ok (.iconst 0, 1) := by decide +kernel
theorem dX11_lay_39 : decode cX11_lay 39 = .ok (.aload_n 0, 1) := by decide +kernel
theorem dX11_lay_40 : decode cX11_lay 40 = .ok (.getfield 16, 3) := by decide +kernel
theorem dX11_lay_43 : decode cX11_lay 43 = .ok (.iconst 1, 1) := by decide +kernel
theorem dX11_lay_44 : decode cX11_lay 44 = .ok (.iaload, 1) := by decide +kernel
theorem dX11_lay_45 : decode cX11_lay 45 = .ok (.iastore, 1) := by decide +kernel
theorem dX11_lay_46 : decode cX11_lay 46 = .ok (.aload_n 0, 1) := by decide +kernel
theorem dX11_lay_47 : decode cX11_lay 47 = .ok (.getfield 37, 3) := by decide +kernel
theorem dX11_lay_50 : decode cX11_lay 50 = .ok (.iconst 0, 1) := by decide +kernel
theorem dX11_lay_51 : decode cX11_lay 51 = .ok (.aload_n 0, 1) := by decide +kernel
theorem dX11_lay_52 : decode cX11_lay 52 = .ok (.getfield 37, 3) := by decide +kernel
theorem dX11_lay_55 : decode cX11_lay 55 = .ok (.iconst 1, 1) := by decide +kernel
theorem dX11_lay_56 : decode cX11_lay 56 = .ok (.iaload, 1) := by decide +kernel
theorem dX11_lay_57 : decode cX11_lay 57 = .ok (.iastore, 1) := by decide +kernel
theorem dX11_lay_58 : decode cX11_lay 58 = .ok (.aload_n 0, 1) := by decide +kernel
theorem dX11_lay_59 : decode cX11_lay 59 = .ok (.getfield 31, 3) := by decide +kernel
theorem dX11_lay_62 : decode cX11_lay 62 = .ok (.iconst 0, 1) := by decide +kernel
theorem dX11_lay_63 : decode cX11_lay 63 = .ok (.aload_n 0, 1) := by decide +kernel
theorem dX11_lay_64 : decode cX11_lay 64 = .ok (.getfield 31, 3) := by decide +kernel
theorem dX11_lay_67 : decode cX11_lay 67 = .ok (.iconst 1, 1) := by decide +kernel
theorem dX11_lay_68 : decode cX11_lay 68 = .ok (.iaload, 1) := by decide +kernel
theorem dX11_lay_69 : decode cX11_lay 69 = .ok (.iastore, 1) := by decide +kernel
theorem dX11_lay_70 : decode cX11_lay 70 = .ok (.aload_n 0, 1) := by decide +kernel
theorem dX11_lay_71 : decode cX11_lay 71 = .ok (.getfield 34, 3) := by decide +kernel
theorem dX11_lay_74 : decode cX11_lay 74 = .ok (.iconst 0, 1) := by decide +kernel
theorem dX11_lay_75 : decode cX11_lay 75 = .ok (.aload_n 0, 1) := by decide +kernel
theorem dX11_lay_76 : decode cX11_lay 76 = .ok (.getfield 34, 3) := by decide +kernel
theorem dX11_lay_79 : decode cX11_lay 79 = .ok (.iconst 1, 1) := by decide +kernel
theorem dX11_lay_80 : decode cX11_lay 80 = .ok (.iaload, 1) := by decide +kernel
theorem dX11_lay_81 : decode cX11_lay 81 = .ok (.iastore, 1) := by decide +kernel
theorem dX11_lay_82 : decode cX11_lay 82 = .ok (.iconst 0, 1) := by decide +kernel
theorem dX11_lay_83 : decode cX11_lay 83 = .ok (.istore_n 1, 1) := by decide +kernel
theorem dX11_lay_84 : decode cX11_lay 84 = .ok (.iload_n 1, 1) := by decide +kernel
theorem dX11_lay_85 : decode cX11_lay 85 = .ok (.sipush 200, 3) := by decide +kernel
theorem dX11_lay_88 : decode cX11_lay 88 = .ok (.if_icmp .ge 25, 3) := by decide +kernel
theorem dX11_lay_91 : decode cX11_lay 91 = .ok (.aload_n 0, 1) := by decide +kernel
theorem dX11_lay_92 : decode cX11_lay 92 = .ok (.getfield 19, 3) := by decide +kernel
theorem dX11_lay_95 : decode cX11_lay 95 = .ok (.iload_n 1, 1) := by decide +kernel
theorem dX11_lay_96 : decode cX11_lay 96 = .ok (.aload_n 0, 1) := by decide +kernel
theorem dX11_lay_97 : decode cX11_lay 97 = .ok (.getfield 19, 3) := by decide +kernel
theorem dX11_lay_100 : decode cX11_lay 100 = .ok (.sipush 200, 3) := by decide +kernel
theorem dX11_lay_103 : decode cX11_lay 103 = .ok (.iload_n 1, 1) := by decide +kernel
theorem dX11_lay_104 : decode cX11_lay 104 = .ok (.iadd, 1) := by decide +kernel
theorem dX11_lay_105 : decode cX11_lay 105 = .ok (.iaload, 1) := by decide +kernel
theorem dX11_lay_106 : decode cX11_lay 106 = .ok (.iastore, 1) := by decide +kernel
theorem dX11_lay_107 : decode cX11_lay 107 = .ok (.iinc 1 1, 3) := by decide +kernel
theorem dX11_lay_110 : decode cX11_lay 110 = .ok (.goto (-26), 3) := by decide +kernel
theorem dX11_lay_113 : decode cX11_lay 113 = .ok (.iconst 0, 1) := by decide +kernel
theorem dX11_lay_114 : decode cX11_lay 114 = .ok (.istore_n 1, 1) := by decide +kernel
theorem dX11_lay_115 : decode cX11_lay 115 = .ok (.iload_n 1, 1) := by decide +kernel
theorem dX11_lay_116 : decode cX11_lay 116 = .ok (.bipush 56, 2) := by decide +kernel
theorem dX11_lay_118 : decode cX11_lay 118 = .ok (.if_icmp .ge 24, 3) := by decide +kernel
theorem dX11_lay_121 : decode cX11_lay 121 = .ok (.aload_n 0, 1) := by decide +kernel
theorem dX11_lay_122 : decode cX11_lay 122 = .ok (.getfield 40, 3) := by decide +kernel
theorem dX11_lay_125 : decode cX11_lay 125 = .ok (.iload_n 1, 1) := by decide +kernel
theorem dX11_lay_126 : decode cX11_lay 126 = .ok (.aload_n 0, 1) := by decide +kernel
theorem dX11_lay_127 : decode cX11_lay 127 = .ok (.getfield 40, 3) := by decide +kernel
theorem dX11_lay_130 : decode cX11_lay 130 = .ok (.bipush 56, 2) := by decide +kernel
theorem dX11_lay_132 : decode cX11_lay 132 = .ok (.iload_n 1, 1) := by decide +kernel
theorem dX11_lay_133 : decode cX11_lay 133 = .ok (.iadd, 1) := by decide +kernel
theorem dX11_lay_134 : decode cX11_lay 134 = .ok (.iaload, 1) := by decide +kernel
theorem dX11_lay_135 : decode cX11_lay 135 = .ok (.iastore, 1) := by decide +kernel
theorem dX11_lay_136 : decode cX11_lay 136 = .ok (.iinc 1 1, 3) := by decide +kernel
theorem dX11_lay_139 : decode cX11_lay 139 = .ok (.goto (-24), 3) := by decide +kernel
theorem dX11_lay_142 : decode cX11_lay 142 = .ok (.iconst 0, 1) := by decide +kernel
theorem dX11_lay_143 : decode cX11_lay 143 = .ok (.istore_n 1, 1) := by decide +kernel
theorem dX11_lay_144 : decode cX11_lay 144 = .ok (.iload_n 1, 1) := by decide +kernel
theorem dX11_lay_145 : decode cX11_lay 145 = .ok (.bipush 24, 2) := by decide +kernel
theorem dX11_lay_147 : decode cX11_lay 147 = .ok (.if_icmp .ge 54, 3) := by decide +kernel
theorem dX11_lay_150 : decode cX11_lay 150 = .ok (.aload_n 0, 1) := by decide +kernel
theorem dX11_lay_151 : decode cX11_lay 151 = .ok (.getfield 22, 3) := by decide +kernel
theorem dX11_lay_154 : decode cX11_lay 154 = .ok (.iload_n 1, 1) := by decide +kernel
theorem dX11_lay_155 : decode cX11_lay 155 = .ok (.aload_n 0, 1) := by decide +kernel
theorem dX11_lay_156 : decode cX11_lay 156 = .ok (.getfield 22, 3) := by decide +kernel
theorem dX11_lay_159 : decode cX11_lay 159 = .ok (.bipush 24, 2) := by decide +kernel
theorem dX11_lay_161 : decode cX11_lay 161 = .ok (.iload_n 1, 1) := by decide +kernel
theorem dX11_lay_162 : decode cX11_lay 162 = .ok (.iadd, 1) := by decide +kernel
theorem dX11_lay_163 : decode cX11_lay 163 = .ok (.iaload, 1) := by decide +kernel
theorem dX11_lay_164 : decode cX11_lay 164 = .ok (.iastore, 1) := by decide +kernel
theorem dX11_lay_165 : decode cX11_lay 165 = .ok (.aload_n 0, 1) := by decide +kernel
theorem dX11_lay_166 : decode cX11_lay 166 = .ok (.getfield 25, 3) := by decide +kernel
theorem dX11_lay_169 : decode cX11_lay 169 = .ok (.iload_n 1, 1) := by decide +kernel
theorem dX11_lay_170 : decode cX11_lay 170 = .ok (.aload_n 0, 1) := by decide +kernel
theorem dX11_lay_171 : decode cX11_lay 171 = .ok (.getfield 25, 3) := by decide +kernel
theorem dX11_lay_174 : decode cX11_lay 174 = .ok (.bipush 24, 2) := by decide +kernel
theorem dX11_lay_176 : decode cX11_lay 176 = .ok (.iload_n 1, 1) := by decide +kernel
theorem dX11_lay_177 : decode cX11_lay 177 = .ok (.iadd, 1) := by decide +kernel
theorem dX11_lay_178 : decode cX11_lay 178 = .ok (.iaload, 1) := by decide +kernel
theorem dX11_lay_179 : decode cX11_lay 179 = .ok (.iastore, 1) := by decide +kernel
theorem dX11_lay_180 : decode cX11_lay 180 = .ok (.aload_n 0, 1) := by decide +kernel
theorem dX11_lay_181 : decode cX11_lay 181 = .ok (.getfield 28, 3) := by decide +kernel
theorem dX11_lay_184 : decode cX11_lay 184 = .ok (.iload_n 1, 1) := by decide +kernel
theorem dX11_lay_185 : decode cX11_lay 185 = .ok (.aload_n 0, 1) := by decide +kernel
theorem dX11_lay_186 : decode cX11_lay 186 = .ok (.getfield 28, 3) := by decide +kernel
theorem dX11_lay_189 : decode cX11_lay 189 = .ok (.bipush 24, 2) := by decide +kernel
theorem dX11_lay_191 : decode cX11_lay 191 = .ok (.iload_n 1, 1) := by decide +kernel
theorem dX11_lay_192 : decode cX11_lay 192 = .ok (.iadd, 1) := by decide +kernel
theorem dX11_lay_193 : decode cX11_lay 193 = .ok (.iaload, 1) := by decide +kernel
theorem dX11_lay_194 : decode cX11_lay 194 = .ok (.iastore, 1) := by decide +kernel
theorem dX11_lay_195 : decode cX11_lay 195 = .ok (.iinc 1 1, 3) := by decide +kernel
theorem dX11_lay_198 : decode cX11_lay 198 = .ok (.goto (-54), 3) := by decide +kernel
theorem dX11_lay_201 : decode cX11_lay 201 = .ok (.iconst 0, 1) := by decide +kernel
theorem dX11_lay_202 : decode cX11_lay 202 = .ok (.istore_n 1, 1) := by decide +kernel
theorem dX11_lay_203 : decode cX11_lay 203 = .ok (.iload_n 1, 1) := by decide +kernel
theorem dX11_lay_204 : decode cX11_lay 204 = .ok (.bipush 8, 2) := by decide +kernel
theorem dX11_lay_206 : decode cX11_lay 206 = .ok (.if_icmp .ge 16, 3) := by decide +kernel
theorem dX11_lay_209 : decode cX11_lay 209 = .ok (.aload_n 0, 1) := by decide +kernel
theorem dX11_lay_210 : decode cX11_lay 210 = .ok (.getfield 43, 3) := by decide +kernel
theorem dX11_lay_213 : decode cX11_lay 213 = .ok (.iload_n 1, 1) := by decide +kernel
theorem dX11_lay_214 : decode cX11_lay 214 = .ok (.iconst 0, 1) := by decide +kernel
theorem dX11_lay_215 : decode cX11_lay 215 = .ok (.iastore, 1) := by decide +kernel
theorem dX11_lay_216 : decode cX11_lay 216 = .ok (.iinc 1 1, 3) := by decide +kernel
theorem dX11_lay_219 : decode cX11_lay 219 = .ok (.goto (-16), 3) := by decide +kernel
theorem dX11_lay_222 : decode cX11_lay 222 = .ok (.aload_n 0, 1) := by decide +kernel
theorem dX11_lay_223 : decode cX11_lay 223 = .ok (.iconst 0, 1) := by decide +kernel
theorem dX11_lay_224 : decode cX11_lay 224 = .ok (.putfield 129, 3) := by decide +kernel
theorem dX11_lay_227 : decode cX11_lay 227 = .ok (.aload_n 0, 1) := by decide +kernel
theorem dX11_lay_228 : decode cX11_lay 228 = .ok (.getfield 37, 3) := by decide +kernel
theorem dX11_lay_231 : decode cX11_lay 231 = .ok (.iconst 0, 1) := by decide +kernel
theorem dX11_lay_232 : decode cX11_lay 232 = .ok (.iaload, 1) := by decide +kernel
theorem dX11_lay_233 : decode cX11_lay 233 = .ok (.ireturn, 1) := by decide +kernel
set_option maxRecDepth 20000 in
theorem ggX11_isJudge_X11_in : GoodIn wsX11_isJudge wsX11_in := goodIn_r _ [5] (by decide +kernel) (by decide +kernel)
set_option maxRecDepth 20000 in
theorem gX11_isJudge_X11_in : GoodIn wsX11_isJudge (va_wsS RX11 80 yX11_in wsX11_in) := goodIn_app (goodIn_of _ (by decide +kernel)) ggX11_isJudge_X11_in
theorem dX11_isJudge_0 : decode cX11_isJudge 0 = .ok (.iload_n 1, 1) := by decide +kernel
theorem dX11_isJudge_1 : decode cX11_isJudge 1 = .ok (.i2l, 1) := by decide +kernel
theorem dX11_isJudge_2 : decode cX11_isJudge 2 = .ok (.lconst 0, 1) := by decide +kernel
theorem dX11_isJudge_3 : decode cX11_isJudge 3 = .ok (.aload_n 0, 1) := by decide +kernel
theorem dX11_isJudge_4 : decode cX11_isJudge 4 = .ok (.getfield 37, 3) := by decide +kernel
theorem dX11_isJudge_7 : decode cX11_isJudge 7 = .ok (.iconst 0, 1) := by decide +kernel
theorem dX11_isJudge_8 : decode cX11_isJudge 8 = .ok (.iaload, 1) := by decide +kernel
theorem dX11_isJudge_9 : decode cX11_isJudge 9 = .ok (.iconst 1, 1) := by decide +kernel
theorem dX11_isJudge_10 : decode cX11_isJudge 10 = .ok (.isub, 1) := by decide +kernel
theorem dX11_isJudge_11 : decode cX11_isJudge 11 = .ok (.i2l, 1) := by decide +kernel
theorem dX11_isJudge_12 : decode cX11_isJudge 12 = .ok (.invokestatic 80, 3) := by decide +kernel
theorem dX11_isJudge_15 : decode cX11_isJudge 15 = .ok (.ireturn, 1) := by decide +kernel
set_option maxRecDepth 20000 in
theorem ggX11_isRound_X11_in : GoodIn wsX11_isRound wsX11_in := goodIn_r _ [5] (by decide +kernel) (by decide +kernel)
set_option maxRecDepth 20000 in
theorem gX11_isRound_X11_in : GoodIn wsX11_isRound (va_wsS RX11 80 yX11_in wsX11_in) := goodIn_app (goodIn_of _ (by decide +kernel)) ggX11_isRound_X11_in
theorem dX11_isRound_0 : decode cX11_isRound 0 = .ok (.iload_n 1, 1) := by decide +kernel
theorem dX11_isRound_1 : decode cX11_isRound 1 = .ok (.i2l, 1) := by decide +kernel
theorem dX11_isRound_2 : decode cX11_isRound 2 = .ok (.lconst 0, 1) := by decide +kernel
theorem dX11_isRound_3 : decode cX11_isRound 3 = .ok (.aload_n 0, 1) := by decide +kernel
theorem dX11_isRound_4 : decode cX11_isRound 4 = .ok (.getfield 13, 3) := by decide +kernel
theorem dX11_isRound_7 : decode cX11_isRound 7 = .ok (.iconst 0, 1) := by decide +kernel
theorem dX11_isRound_8 : decode cX11_isRound 8 = .ok (.iaload, 1) := by decide +kernel
theorem dX11_isRound_9 : decode cX11_isRound 9 = .ok (.iconst 1, 1) := by decide +kernel
theorem dX11_isRound_10 : decode cX11_isRound 10 = .ok (.isub, 1) := by decide +kernel
theorem dX11_isRound_11 : decode cX11_isRound 11 = .ok (.i2l, 1) := by decide +kernel
theorem dX11_isRound_12 : decode cX11_isRound 12 = .ok (.invokestatic 80, 3) := by decide +kernel
theorem dX11_isRound_15 : decode cX11_isRound 15 = .ok (.ireturn, 1) := by decide +kernel
theorem dX11_shows_0 : decode cX11_shows 0 = .ok (.iload_n 0, 1) := by decide +kernel
theorem dX11_shows_1 : decode cX11_shows 1 = .ok (.iload_n 1, 1) := by decide +kernel
theorem dX11_shows_2 : decode cX11_shows 2 = .ok (.if_icmp .ge 9, 3) := by decide +kernel
theorem dX11_shows_5 : decode cX11_shows 5 = .ok (.iload_n 1, 1) := by decide +kernel
theorem dX11_shows_6 : decode cX11_shows 6 = .ok (.iload_n 0, 1) := by decide +kernel
theorem dX11_shows_7 : decode cX11_shows 7 = .ok (.isub, 1) := by decide +kernel
theorem dX11_shows_8 : decode cX11_shows 8 = .ok (.goto 6, 3) := by decide +kernel
theorem dX11_shows_11 : decode cX11_shows 11 = .ok (.iload_n 0, 1) := by decide +kernel
theorem dX11_shows_12 : decode cX11_shows 12 = .ok (.iload_n 1, 1) := by decide +kernel
theorem dX11_shows_13 : decode cX11_shows 13 = .ok (.isub, 1) := by decide +kernel
theorem dX11_shows_14 : decode cX11_shows 14 = .ok (.istore_n 2, 1) := by decide +kernel
theorem dX11_shows_15 : decode cX11_shows 15 = .ok (.iload_n 2, 1) := by decide +kernel
theorem dX11_shows_16 : decode cX11_shows 16 = .ok (.iconst 4, 1) := by decide +kernel
theorem dX11_shows_17 : decode cX11_shows 17 = .ok (.if_icmp .le 9, 3) := by decide +kernel
theorem dX11_shows_20 : decode cX11_shows 20 = .ok (.iload_n 2, 1) := by decide +kernel
theorem dX11_shows_21 : decode cX11_shows 21 = .ok (.bipush 8, 2) := by decide +kernel
theorem dX11_shows_23 : decode cX11_shows 23 = .ok (.if_icmp .lt 7, 3) := by decide +kernel
theorem dX11_shows_26 : decode cX11_shows 26 = .ok (.iconst 1, 1) := by decide +kernel
theorem dX11_shows_27 : decode cX11_shows 27 = .ok (.goto 4, 3) := by decide +kernel
theorem dX11_shows_30 : decode cX11_shows 30 = .ok (.iconst 0, 1) := by decide +kernel
theorem dX11_shows_31 : decode cX11_shows 31 = .ok (.ireturn, 1) := by decide +kernel
set_option maxRecDepth 20000 in
theorem ggX11_sees_X11_shows : GoodIn wsX11_sees wsX11_shows := goodIn_r _ [6] (by decide +kernel) (by decide +kernel)
set_option maxRecDepth 20000 in
theorem gX11_sees_X11_shows : GoodIn wsX11_sees (va_wsS RX11 132 yX11_shows wsX11_shows) := goodIn_app (goodIn_of _ (by decide +kernel)) ggX11_sees_X11_shows
theorem dX11_sees_0 : decode cX11_sees 0 = .ok (.aload_n 0, 1) := by decide +kernel
theorem dX11_sees_1 : decode cX11_sees 1 = .ok (.getfield 40, 3) := by decide +kernel
theorem dX11_sees_4 : decode cX11_sees 4 = .ok (.bipush 7, 2) := by decide +kernel
theorem dX11_sees_6 : decode cX11_sees 6 = .ok (.iload_n 1, 1) := by decide +kernel
theorem dX11_sees_7 : decode cX11_sees 7 = .ok (.imul, 1) := by decide +kernel
theorem dX11_sees_8 : decode cX11_sees 8 = .ok (.iaload, 1) := by decide +kernel
theorem dX11_sees_9 : decode cX11_sees 9 = .ok (.aload_n 0, 1) := by decide +kernel
theorem dX11_sees_10 : decode cX11_sees 10 = .ok (.getfield 19, 3) := by decide +kernel
theorem dX11_sees_13 : decode cX11_sees 13 = .ok (.iconst 5, 1) := by decide +kernel
theorem dX11_sees_14 : decode cX11_sees 14 = .ok (.iload_n 2, 1) := by decide +kernel
theorem dX11_sees_15 : decode cX11_sees 15 = .ok (.imul, 1) := by decide +kernel
theorem dX11_sees_16 : decode cX11_sees 16 = .ok (.iconst 4, 1) := by decide +kernel
theorem dX11_sees_17 : decode cX11_sees 17 = .ok (.iadd, 1) := by decide +kernel
theorem dX11_sees_18 : decode cX11_sees 18 = .ok (.iaload, 1) := by decide +kernel
theorem dX11_sees_19 : decode cX11_sees 19 = .ok (.invokestatic 132, 3) := by decide +kernel
theorem dX11_sees_22 : decode cX11_sees 22 = .ok (.ireturn, 1) := by decide +kernel
set_option maxRecDepth 20000 in
theorem ggX11_blow_X11_in : GoodIn wsX11_blow wsX11_in := goodIn_r _ [8] (by decide +kernel) (by decide +kernel)
set_option maxRecDepth 20000 in
theorem gX11_blow_X11_in : GoodIn wsX11_blow (va_wsS RX11 80 yX11_in wsX11_in) := goodIn_app (goodIn_of _ (by decide +kernel)) ggX11_blow_X11_in
set_option maxRecDepth 20000 in
theorem ggX11_blow_X11_sees : GoodIn wsX11_blow wsX11_sees := goodIn_r _ [12, 13, 3, 14, 15, 7, 16, 17, 18, 19, 20, 21, 22, 23, 24, 25, 26, 27, 28, 29, 30, 31, 32, 33, 34, 35, 36, 37, 38, 39, 40] (by decide +kernel) (by decide +kernel)
set_option maxRecDepth 20000 in
theorem gX11_blow_X11_sees : GoodIn wsX11_blow (wsV RX11 138 RX11 yX11_sees wsX11_sees) := goodIn_app (goodIn_of _ (by decide +kernel)) ggX11_blow_X11_sees
theorem dX11_blow_0 : decode cX11_blow 0 = .ok (.iload_n 1, 1) := by decide +kernel
theorem dX11_blow_1 : decode cX11_blow 1 = .ok (.i2l, 1) := by decide +kernel
theorem dX11_blow_2 : decode cX11_blow 2 = .ok (.lconst 0, 1) := by decide +kernel
theorem dX11_blow_3 : decode cX11_blow 3 = .ok (.aload_n 0, 1) := by decide +kernel
theorem dX11_blow_4 : decode cX11_blow 4 = .ok (.getfield 16, 3) := by decide +kernel
theorem dX11_blow_7 : decode cX11_blow 7 = .ok (.iconst 0, 1) := by decide +kernel
theorem dX11_blow_8 : decode cX11_blow 8 = .ok (.iaload, 1) := by decide +kernel
theorem dX11_blow_9 : decode cX11_blow 9 = .ok (.iconst 1, 1) := by decide +kernel
theorem dX11_blow_10 : decode cX11_blow 10 = .ok (.isub, 1) := by decide +kernel
theorem dX11_blow_11 : decode cX11_blow 11 = .ok (.i2l, 1) := by decide +kernel
theorem dX11_blow_12 : decode cX11_blow 12 = .ok (.invokestatic 80, 3) := by decide +kernel
theorem dX11_blow_15 : decode cX11_blow 15 = .ok (.ifCond .eq 15, 3) := by decide +kernel
theorem dX11_blow_18 : decode cX11_blow 18 = .ok (.iload_n 2, 1) := by decide +kernel
theorem dX11_blow_19 : decode cX11_blow 19 = .ok (.i2l, 1) := by decide +kernel
theorem dX11_blow_20 : decode cX11_blow 20 = .ok (.lconst 0, 1) := by decide +kernel
theorem dX11_blow_21 : decode cX11_blow 21 = .ok (.ldc2_w 136, 3) := by decide +kernel
theorem dX11_blow_24 : decode cX11_blow 24 = .ok (.invokestatic 80, 3) := by decide +kernel
theorem dX11_blow_27 : decode cX11_blow 27 = .ok (.ifCond .ne 5, 3) := by decide +kernel
theorem dX11_blow_30 : decode cX11_blow 30 = .ok (.iconst (-1), 1) := by decide +kernel
theorem dX11_blow_31 : decode cX11_blow 31 = .ok (.ireturn, 1) := by decide +kernel
theorem dX11_blow_32 : decode cX11_blow 32 = .ok (.iload_n 2, 1) := by decide +kernel
theorem dX11_blow_33 : decode cX11_blow 33 = .ok (.iconst 5, 1) := by decide +kernel
theorem dX11_blow_34 : decode cX11_blow 34 = .ok (.if_icmp .ge 14, 3) := by decide +kernel
theorem dX11_blow_37 : decode cX11_blow 37 = .ok (.aload_n 0, 1) := by decide +kernel
theorem dX11_blow_38 : decode cX11_blow 38 = .ok (.getfield 19, 3) := by decide +kernel
theorem dX11_blow_41 : decode cX11_blow 41 = .ok (.iconst 5, 1) := by decide +kernel
theorem dX11_blow_42 : decode cX11_blow 42 = .ok (.iload_n 1, 1) := by decide +kernel
theorem dX11_blow_43 : decode cX11_blow 43 = .ok (.imul, 1) := by decide +kernel
theorem dX11_blow_44 : decode cX11_blow 44 = .ok (.iload_n 2, 1) := by decide +kernel
theorem dX11_blow_45 : decode cX11_blow 45 = .ok (.iadd, 1) := by decide +kernel
theorem dX11_blow_46 : decode cX11_blow 46 = .ok (.iaload, 1) := by decide +kernel
theorem dX11_blow_47 : decode cX11_blow 47 = .ok (.ireturn, 1) := by decide +kernel
theorem dX11_blow_48 : decode cX11_blow 48 = .ok (.iconst 0, 1) := by decide +kernel
theorem dX11_blow_49 : decode cX11_blow 49 = .ok (.istore_n 3, 1) := by decide +kernel
theorem dX11_blow_50 : decode cX11_blow 50 = .ok (.iconst 0, 1) := by decide +kernel
theorem dX11_blow_51 : decode cX11_blow 51 = .ok (.istore 4, 2) := by decide +kernel
theorem dX11_blow_53 : decode cX11_blow 53 = .ok (.iload 4, 2) := by decide +kernel
theorem dX11_blow_55 : decode cX11_blow 55 = .ok (.aload_n 0, 1) := by decide +kernel
theorem dX11_blow_56 : decode cX11_blow 56 = .ok (.getfield 37, 3) := by decide +kernel
theorem dX11_blow_59 : decode cX11_blow 59 = .ok (.iconst 0, 1) := by decide +kernel
theorem dX11_blow_60 : decode cX11_blow 60 = .ok (.iaload, 1) := by decide +kernel
theorem dX11_blow_61 : decode cX11_blow 61 = .ok (.if_icmp .ge 30, 3) := by decide +kernel
theorem dX11_blow_64 : decode cX11_blow 64 = .ok (.iload_n 3, 1) := by decide +kernel
theorem dX11_blow_65 : decode cX11_blow 65 = .ok (.aload_n 0, 1) := by decide +kernel
theorem dX11_blow_66 : decode cX11_blow 66 = .ok (.iload 4, 2) := by decide +kernel
theorem dX11_blow_68 : decode cX11_blow 68 = .ok (.iload_n 1, 1) := by decide +kernel
theorem dX11_blow_69 : decode cX11_blow 69 = .ok (.invokevirtual 138, 3) := by decide +kernel
theorem dX11_blow_72 : decode cX11_blow 72 = .ok (.ifCond .eq 10, 3) := by decide +kernel
theorem dX11_blow_75 : decode cX11_blow 75 = .ok (.iconst 1, 1) := by decide +kernel
theorem dX11_blow_76 : decode cX11_blow 76 = .ok (.iload 4, 2) := by decide +kernel
theorem dX11_blow_78 : decode cX11_blow 78 = .ok (.ishl, 1) := by decide +kernel
theorem dX11_blow_79 : decode cX11_blow 79 = .ok (.goto 4, 3) := by decide +kernel
theorem dX11_blow_82 : decode cX11_blow 82 = .ok (.iconst 0, 1) := by decide +kernel
theorem dX11_blow_83 : decode cX11_blow 83 = .ok (.ior, 1) := by decide +kernel
theorem dX11_blow_84 : decode cX11_blow 84 = .ok (.istore_n 3, 1) := by decide +kernel
theorem dX11_blow_85 : decode cX11_blow 85 = .ok (.iinc 4 1, 3) := by decide +kernel
theorem dX11_blow_88 : decode cX11_blow 88 = .ok (.goto (-35), 3) := by decide +kernel
theorem dX11_blow_91 : decode cX11_blow 91 = .ok (.iload_n 3, 1) := by decide +kernel
theorem dX11_blow_92 : decode cX11_blow 92 = .ok (.ireturn, 1) := by decide +kernel
set_option maxRecDepth 20000 in
theorem ggX11_sumOf_X11_sees : GoodIn wsX11_sumOf wsX11_sees := goodIn_r _ [11, 1, 4, 12, 13, 10, 14, 15, 16, 17, 18, 19, 20, 21, 22, 23, 24, 25, 26, 27, 28, 29, 30, 31, 32, 33, 34, 35, 36, 37, 38] (by decide +kernel) (by decide +kernel)
set_option maxRecDepth 20000 in
theorem gX11_sumOf_X11_sees : GoodIn wsX11_sumOf (wsV RX11 138 RX11 yX11_sees wsX11_sees) := goodIn_app (goodIn_of _ (by decide +kernel)) ggX11_sumOf_X11_sees
theorem dX11_sumOf_0 : decode cX11_sumOf 0 = .ok (.aload_n 0, 1) := by decide +kernel
theorem dX11_sumOf_1 : decode cX11_sumOf 1 = .ok (.getfield 40, 3) := by decide +kernel
theorem dX11_sumOf_4 : decode cX11_sumOf 4 = .ok (.bipush 7, 2) := by decide +kernel
theorem dX11_sumOf_6 : decode cX11_sumOf 6 = .ok (.iload_n 1, 1) := by decide +kernel
theorem dX11_sumOf_7 : decode cX11_sumOf 7 = .ok (.imul, 1) := by decide +kernel
theorem dX11_sumOf_8 : decode cX11_sumOf 8 = .ok (.iconst 2, 1) := by decide +kernel
theorem dX11_sumOf_9 : decode cX11_sumOf 9 = .ok (.iadd, 1) := by decide +kernel
theorem dX11_sumOf_10 : decode cX11_sumOf 10 = .ok (.iaload, 1) := by decide +kernel
theorem dX11_sumOf_11 : decode cX11_sumOf 11 = .ok (.aload_n 0, 1) := by decide +kernel
theorem dX11_sumOf_12 : decode cX11_sumOf 12 = .ok (.getfield 22, 3) := by decide +kernel
theorem dX11_sumOf_15 : decode cX11_sumOf 15 = .ok (.iconst 2, 1) := by decide +kernel
