set_option maxRecDepth 20000 in
theorem ggX10_hidden_X10_isGame : GoodIn wsX10_hidden wsX10_isGame := goodIn_r _ [5, 6, 7, 4, 8] (by decide +kernel) (by decide +kernel)
set_option maxRecDepth 20000 in
theorem gX10_hidden_X10_isGame : GoodIn wsX10_hidden (va_wsS RX10 252 yX10_isGame wsX10_isGame) := goodIn_app (goodIn_of _ (by decide +kernel)) ggX10_hidden_X10_isGame
set_option maxRecDepth 20000 in
theorem ggX10_hidden_X4_playHidden : GoodIn wsX10_hidden wsX4_playHidden := goodIn_r _ [13, 14, 15, 16, 17, 18, 19, 20, 21, 22, 23, 24, 25, 12, 26, 27, 28, 29, 30, 31, 32, 33, 34, 35, 36, 37, 38, 39, 40, 41, 42, 43, 44, 45, 46, 47, 48, 49, 50, 51, 52, 53, 54, 72, 73, 74, 75, 76, 77, 78, 79, 80] (by decide +kernel) (by decide +kernel)
set_option maxRecDepth 20000 in
theorem gX10_hidden_X4_playHidden : GoodIn wsX10_hidden (wsV RX10 262 RX4 yX4_playHidden wsX4_playHidden) := goodIn_app (goodIn_of _ (by decide +kernel)) ggX10_hidden_X4_playHidden
set_option maxRecDepth 20000 in
theorem ggX10_hidden_X4_result : GoodIn wsX10_hidden wsX4_result := goodIn_r _ [58, 15, 54, 16, 72, 73, 74, 75, 76, 77] (by decide +kernel) (by decide +kernel)
set_option maxRecDepth 20000 in
theorem gX10_hidden_X4_result : GoodIn wsX10_hidden (wsV RX10 259 RX4 yX4_result wsX4_result) := goodIn_app (goodIn_of _ (by decide +kernel)) ggX10_hidden_X4_result
theorem dX10_hidden_0 : decode cX10_hidden 0 = .ok (.iload_n 1, 1) := by decide +kernel
theorem dX10_hidden_1 : decode cX10_hidden 1 = .ok (.iload_n 2, 1) := by decide +kernel
theorem dX10_hidden_2 : decode cX10_hidden 2 = .ok (.iload_n 3, 1) := by decide +kernel
theorem dX10_hidden_3 : decode cX10_hidden 3 = .ok (.invokestatic 252, 3) := by decide +kernel
theorem dX10_hidden_6 : decode cX10_hidden 6 = .ok (.ifCond .ne 5, 3) := by decide +kernel
theorem dX10_hidden_9 : decode cX10_hidden 9 = .ok (.iconst (-1), 1) := by decide +kernel
theorem dX10_hidden_10 : decode cX10_hidden 10 = .ok (.ireturn, 1) := by decide +kernel
theorem dX10_hidden_11 : decode cX10_hidden 11 = .ok (.aload_n 0, 1) := by decide +kernel
theorem dX10_hidden_12 : decode cX10_hidden 12 = .ok (.getfield 88, 3) := by decide +kernel
theorem dX10_hidden_15 : decode cX10_hidden 15 = .ok (.iload_n 1, 1) := by decide +kernel
theorem dX10_hidden_16 : decode cX10_hidden 16 = .ok (.iload_n 2, 1) := by decide +kernel
theorem dX10_hidden_17 : decode cX10_hidden 17 = .ok (.invokevirtual 262, 3) := by decide +kernel
theorem dX10_hidden_20 : decode cX10_hidden 20 = .ok (.aload_n 0, 1) := by decide +kernel
theorem dX10_hidden_21 : decode cX10_hidden 21 = .ok (.getfield 88, 3) := by decide +kernel
theorem dX10_hidden_24 : decode cX10_hidden 24 = .ok (.iload_n 3, 1) := by decide +kernel
theorem dX10_hidden_25 : decode cX10_hidden 25 = .ok (.invokevirtual 259, 3) := by decide +kernel
theorem dX10_hidden_28 : decode cX10_hidden 28 = .ok (.ireturn, 1) := by decide +kernel
set_option maxRecDepth 20000 in
theorem ggX10_keep_X5_copyFrom : GoodIn wsX10_keep wsX5_copyFrom := goodIn_r _ [8, 9, 10, 11, 12, 13, 14, 15, 29, 30, 31] (by decide +kernel) (by decide +kernel)
set_option maxRecDepth 20000 in
theorem gX10_keep_X5_copyFrom : GoodIn wsX10_keep (wsV RX10 265 RX5 yX5_copyFrom wsX5_copyFrom) := goodIn_app (goodIn_of _ (by decide +kernel)) ggX10_keep_X5_copyFrom
theorem dX10_keep_0 : decode cX10_keep 0 = .ok (.aload_n 0, 1) := by decide +kernel
theorem dX10_keep_1 : decode cX10_keep 1 = .ok (.getfield 96, 3) := by decide +kernel
theorem dX10_keep_4 : decode cX10_keep 4 = .ok (.iconst 2, 1) := by decide +kernel
theorem dX10_keep_5 : decode cX10_keep 5 = .ok (.if_icmp .lt 6, 3) := by decide +kernel
theorem dX10_keep_8 : decode cX10_keep 8 = .ok (.bipush (-3), 2) := by decide +kernel
theorem dX10_keep_10 : decode cX10_keep 10 = .ok (.ireturn, 1) := by decide +kernel
theorem dX10_keep_11 : decode cX10_keep 11 = .ok (.aload_n 0, 1) := by decide +kernel
theorem dX10_keep_12 : decode cX10_keep 12 = .ok (.getfield 92, 3) := by decide +kernel
theorem dX10_keep_15 : decode cX10_keep 15 = .ok (.aload_n 0, 1) := by decide +kernel
theorem dX10_keep_16 : decode cX10_keep 16 = .ok (.getfield 96, 3) := by decide +kernel
theorem dX10_keep_19 : decode cX10_keep 19 = .ok (.aaload, 1) := by decide +kernel
theorem dX10_keep_20 : decode cX10_keep 20 = .ok (.aload_n 0, 1) := by decide +kernel
theorem dX10_keep_21 : decode cX10_keep 21 = .ok (.getfield 63, 3) := by decide +kernel
theorem dX10_keep_24 : decode cX10_keep 24 = .ok (.invokevirtual 265, 3) := by decide +kernel
theorem dX10_keep_27 : decode cX10_keep 27 = .ok (.aload_n 0, 1) := by decide +kernel
theorem dX10_keep_28 : decode cX10_keep 28 = .ok (.dup, 1) := by decide +kernel
theorem dX10_keep_29 : decode cX10_keep 29 = .ok (.getfield 96, 3) := by decide +kernel
theorem dX10_keep_32 : decode cX10_keep 32 = .ok (.iconst 1, 1) := by decide +kernel
theorem dX10_keep_33 : decode cX10_keep 33 = .ok (.iadd, 1) := by decide +kernel
theorem dX10_keep_34 : decode cX10_keep 34 = .ok (.putfield 96, 3) := by decide +kernel
theorem dX10_keep_37 : decode cX10_keep 37 = .ok (.aload_n 0, 1) := by decide +kernel
theorem dX10_keep_38 : decode cX10_keep 38 = .ok (.getfield 96, 3) := by decide +kernel
theorem dX10_keep_41 : decode cX10_keep 41 = .ok (.ireturn, 1) := by decide +kernel
set_option maxRecDepth 20000 in
theorem ggX10_back_X5_copyFrom : GoodIn wsX10_back wsX5_copyFrom := goodIn_r _ [8, 9, 10, 11, 12, 13, 14, 15, 29, 30, 31] (by decide +kernel) (by decide +kernel)
set_option maxRecDepth 20000 in
theorem gX10_back_X5_copyFrom : GoodIn wsX10_back (wsV RX10 265 RX5 yX5_copyFrom wsX5_copyFrom) := goodIn_app (goodIn_of _ (by decide +kernel)) ggX10_back_X5_copyFrom
theorem dX10_back_0 : decode cX10_back 0 = .ok (.aload_n 0, 1) := by decide +kernel
theorem dX10_back_1 : decode cX10_back 1 = .ok (.getfield 96, 3) := by decide +kernel
theorem dX10_back_4 : decode cX10_back 4 = .ok (.ifCond .gt 6, 3) := by decide +kernel
theorem dX10_back_7 : decode cX10_back 7 = .ok (.bipush (-2), 2) := by decide +kernel
theorem dX10_back_9 : decode cX10_back 9 = .ok (.ireturn, 1) := by decide +kernel
theorem dX10_back_10 : decode cX10_back 10 = .ok (.aload_n 0, 1) := by decide +kernel
theorem dX10_back_11 : decode cX10_back 11 = .ok (.dup, 1) := by decide +kernel
theorem dX10_back_12 : decode cX10_back 12 = .ok (.getfield 96, 3) := by decide +kernel
theorem dX10_back_15 : decode cX10_back 15 = .ok (.iconst 1, 1) := by decide +kernel
theorem dX10_back_16 : decode cX10_back 16 = .ok (.isub, 1) := by decide +kernel
theorem dX10_back_17 : decode cX10_back 17 = .ok (.putfield 96, 3) := by decide +kernel
theorem dX10_back_20 : decode cX10_back 20 = .ok (.aload_n 0, 1) := by decide +kernel
theorem dX10_back_21 : decode cX10_back 21 = .ok (.getfield 63, 3) := by decide +kernel
theorem dX10_back_24 : decode cX10_back 24 = .ok (.aload_n 0, 1) := by decide +kernel
theorem dX10_back_25 : decode cX10_back 25 = .ok (.getfield 92, 3) := by decide +kernel
theorem dX10_back_28 : decode cX10_back 28 = .ok (.aload_n 0, 1) := by decide +kernel
theorem dX10_back_29 : decode cX10_back 29 = .ok (.getfield 96, 3) := by decide +kernel
theorem dX10_back_32 : decode cX10_back 32 = .ok (.aaload, 1) := by decide +kernel
theorem dX10_back_33 : decode cX10_back 33 = .ok (.invokevirtual 265, 3) := by decide +kernel
theorem dX10_back_36 : decode cX10_back 36 = .ok (.aload_n 0, 1) := by decide +kernel
theorem dX10_back_37 : decode cX10_back 37 = .ok (.getfield 96, 3) := by decide +kernel
theorem dX10_back_40 : decode cX10_back 40 = .ok (.ireturn, 1) := by decide +kernel
set_option maxRecDepth 20000 in
theorem ggX10_count_X5_howManyTold : GoodIn wsX10_count wsX5_howManyTold := goodIn_r _ [9, 10, 39, 40, 41] (by decide +kernel) (by decide +kernel)
set_option maxRecDepth 20000 in
theorem gX10_count_X5_howManyTold : GoodIn wsX10_count (wsV RX10 268 RX5 yX5_howManyTold wsX5_howManyTold) := goodIn_app (goodIn_of _ (by decide +kernel)) ggX10_count_X5_howManyTold
theorem dX10_count_0 : decode cX10_count 0 = .ok (.iload_n 1, 1) := by decide +kernel
theorem dX10_count_1 : decode cX10_count 1 = .ok (.tableswitch 84 0 5 #[39, 47, 55, 63, 71, 79], 39) := by decide +kernel
theorem dX10_count_40 : decode cX10_count 40 = .ok (.aload_n 0, 1) := by decide +kernel
theorem dX10_count_41 : decode cX10_count 41 = .ok (.getfield 32, 3) := by decide +kernel
theorem dX10_count_44 : decode cX10_count 44 = .ok (.getfield 217, 3) := by decide +kernel
theorem dX10_count_47 : decode cX10_count 47 = .ok (.ireturn, 1) := by decide +kernel
theorem dX10_count_48 : decode cX10_count 48 = .ok (.aload_n 0, 1) := by decide +kernel
theorem dX10_count_49 : decode cX10_count 49 = .ok (.getfield 32, 3) := by decide +kernel
theorem dX10_count_52 : decode cX10_count 52 = .ok (.getfield 122, 3) := by decide +kernel
theorem dX10_count_55 : decode cX10_count 55 = .ok (.ireturn, 1) := by decide +kernel
theorem dX10_count_56 : decode cX10_count 56 = .ok (.aload_n 0, 1) := by decide +kernel
theorem dX10_count_57 : decode cX10_count 57 = .ok (.getfield 32, 3) := by decide +kernel
theorem dX10_count_60 : decode cX10_count 60 = .ok (.getfield 131, 3) := by decide +kernel
theorem dX10_count_63 : decode cX10_count 63 = .ok (.ireturn, 1) := by decide +kernel
theorem dX10_count_64 : decode cX10_count 64 = .ok (.aload_n 0, 1) := by decide +kernel
theorem dX10_count_65 : decode cX10_count 65 = .ok (.getfield 10, 3) := by decide +kernel
theorem dX10_count_68 : decode cX10_count 68 = .ok (.getfield 111, 3) := by decide +kernel
theorem dX10_count_71 : decode cX10_count 71 = .ok (.ireturn, 1) := by decide +kernel
theorem dX10_count_72 : decode cX10_count 72 = .ok (.aload_n 0, 1) := by decide +kernel
theorem dX10_count_73 : decode cX10_count 73 = .ok (.getfield 63, 3) := by decide +kernel
theorem dX10_count_76 : decode cX10_count 76 = .ok (.invokevirtual 268, 3) := by decide +kernel
theorem dX10_count_79 : decode cX10_count 79 = .ok (.ireturn, 1) := by decide +kernel
theorem dX10_count_80 : decode cX10_count 80 = .ok (.aload_n 0, 1) := by decide +kernel
theorem dX10_count_81 : decode cX10_count 81 = .ok (.getfield 96, 3) := by decide +kernel
theorem dX10_count_84 : decode cX10_count 84 = .ok (.ireturn, 1) := by decide +kernel
theorem dX10_count_85 : decode cX10_count 85 = .ok (.iconst (-1), 1) := by decide +kernel
theorem dX10_count_86 : decode cX10_count 86 = .ok (.ireturn, 1) := by decide +kernel
theorem dX10_within_0 : decode cX10_within 0 = .ok (.iload_n 0, 1) := by decide +kernel
theorem dX10_within_1 : decode cX10_within 1 = .ok (.iload_n 1, 1) := by decide +kernel
theorem dX10_within_2 : decode cX10_within 2 = .ok (.if_icmp .lt 12, 3) := by decide +kernel
theorem dX10_within_5 : decode cX10_within 5 = .ok (.iload_n 0, 1) := by decide +kernel
theorem dX10_within_6 : decode cX10_within 6 = .ok (.iload_n 2, 1) := by decide +kernel
theorem dX10_within_7 : decode cX10_within 7 = .ok (.if_icmp .gt 7, 3) := by decide +kernel
theorem dX10_within_10 : decode cX10_within 10 = .ok (.iconst 1, 1) := by decide +kernel
theorem dX10_within_11 : decode cX10_within 11 = .ok (.goto 4, 3) := by decide +kernel
theorem dX10_within_14 : decode cX10_within 14 = .ok (.iconst 0, 1) := by decide +kernel
theorem dX10_within_15 : decode cX10_within 15 = .ok (.ireturn, 1) := by decide +kernel
set_option maxRecDepth 20000 in
theorem ggX10_isCorner_X10_within : GoodIn wsX10_isCorner wsX10_within := goodIn_r _ [4] (by decide +kernel) (by decide +kernel)
set_option maxRecDepth 20000 in
theorem gX10_isCorner_X10_within : GoodIn wsX10_isCorner (va_wsS RX10 103 yX10_within wsX10_within) := goodIn_app (goodIn_of _ (by decide +kernel)) ggX10_isCorner_X10_within
theorem dX10_isCorner_0 : decode cX10_isCorner 0 = .ok (.iload_n 0, 1) := by decide +kernel
theorem dX10_isCorner_1 : decode cX10_isCorner 1 = .ok (.iconst 0, 1) := by decide +kernel
theorem dX10_isCorner_2 : decode cX10_isCorner 2 = .ok (.iconst 1, 1) := by decide +kernel
theorem dX10_isCorner_3 : decode cX10_isCorner 3 = .ok (.invokestatic 103, 3) := by decide +kernel
theorem dX10_isCorner_6 : decode cX10_isCorner 6 = .ok (.ireturn, 1) := by decide +kernel
set_option maxRecDepth 20000 in
theorem ggX10_isRule_X10_within : GoodIn wsX10_isRule wsX10_within := goodIn_r _ [4] (by decide +kernel) (by decide +kernel)
set_option maxRecDepth 20000 in
theorem gX10_isRule_X10_within : GoodIn wsX10_isRule (va_wsS RX10 103 yX10_within wsX10_within) := goodIn_app (goodIn_of _ (by decide +kernel)) ggX10_isRule_X10_within
theorem dX10_isRule_0 : decode cX10_isRule 0 = .ok (.iload_n 0, 1) := by decide +kernel
theorem dX10_isRule_1 : decode cX10_isRule 1 = .ok (.iconst 0, 1) := by decide +kernel
theorem dX10_isRule_2 : decode cX10_isRule 2 = .ok (.iconst 3, 1) := by decide +kernel
theorem dX10_isRule_3 : decode cX10_isRule 3 = .ok (.invokestatic 103, 3) := by decide +kernel
theorem dX10_isRule_6 : decode cX10_isRule 6 = .ok (.ireturn, 1) := by decide +kernel
set_option maxRecDepth 20000 in
theorem ggX10_isName_X10_within : GoodIn wsX10_isName wsX10_within := goodIn_r _ [4] (by decide +kernel) (by decide +kernel)
set_option maxRecDepth 20000 in
theorem gX10_isName_X10_within : GoodIn wsX10_isName (va_wsS RX10 103 yX10_within wsX10_within) := goodIn_app (goodIn_of _ (by decide +kernel)) ggX10_isName_X10_within
theorem dX10_isName_0 : decode cX10_isName 0 = .ok (.iload_n 0, 1) := by decide +kernel
theorem dX10_isName_1 : decode cX10_isName 1 = .ok (.iconst 0, 1) := by decide +kernel
theorem dX10_isName_2 : decode cX10_isName 2 = .ok (.iconst 5, 1) := by decide +kernel
theorem dX10_isName_3 : decode cX10_isName 3 = .ok (.invokestatic 103, 3) := by decide +kernel
theorem dX10_isName_6 : decode cX10_isName 6 = .ok (.ireturn, 1) := by decide +kernel
set_option maxRecDepth 20000 in
theorem ggX10_isToldSum_X10_within : GoodIn wsX10_isToldSum wsX10_within := goodIn_r _ [4] (by decide +kernel) (by decide +kernel)
set_option maxRecDepth 20000 in
theorem gX10_isToldSum_X10_within : GoodIn wsX10_isToldSum (va_wsS RX10 103 yX10_within wsX10_within) := goodIn_app (goodIn_of _ (by decide +kernel)) ggX10_isToldSum_X10_within
theorem dX10_isToldSum_0 : decode cX10_isToldSum 0 = .ok (.iload_n 0, 1) := by decide +kernel
theorem dX10_isToldSum_1 : decode cX10_isToldSum 1 = .ok (.iconst 0, 1) := by decide +kernel
theorem dX10_isToldSum_2 : decode cX10_isToldSum 2 = .ok (.sipush 999, 3) := by decide +kernel
theorem dX10_isToldSum_5 : decode cX10_isToldSum 5 = .ok (.invokestatic 103, 3) := by decide +kernel
theorem dX10_isToldSum_8 : decode cX10_isToldSum 8 = .ok (.ireturn, 1) := by decide +kernel
set_option maxRecDepth 20000 in
theorem ggX10_isGame_X10_within : GoodIn wsX10_isGame wsX10_within := goodIn_r _ [4] (by decide +kernel) (by decide +kernel)
set_option maxRecDepth 20000 in
theorem gX10_isGame_X10_within : GoodIn wsX10_isGame (va_wsS RX10 103 yX10_within wsX10_within) := goodIn_app (goodIn_of _ (by decide +kernel)) ggX10_isGame_X10_within
theorem dX10_isGame_0 : decode cX10_isGame 0 = .ok (.iload_n 0, 1) := by decide +kernel
theorem dX10_isGame_1 : decode cX10_isGame 1 = .ok (.iconst 1, 1) := by decide +kernel
theorem dX10_isGame_2 : decode cX10_isGame 2 = .ok (.bipush 12, 2) := by decide +kernel
theorem dX10_isGame_4 : decode cX10_isGame 4 = .ok (.invokestatic 103, 3) := by decide +kernel
theorem dX10_isGame_7 : decode cX10_isGame 7 = .ok (.ifCond .eq 27, 3) := by decide +kernel
theorem dX10_isGame_10 : decode cX10_isGame 10 = .ok (.iload_n 1, 1) := by decide +kernel
theorem dX10_isGame_11 : decode cX10_isGame 11 = .ok (.bipush (-12), 2) := by decide +kernel
theorem dX10_isGame_13 : decode cX10_isGame 13 = .ok (.bipush 12, 2) := by decide +kernel
theorem dX10_isGame_15 : decode cX10_isGame 15 = .ok (.invokestatic 103, 3) := by decide +kernel
theorem dX10_isGame_18 : decode cX10_isGame 18 = .ok (.ifCond .eq 16, 3) := by decide +kernel
theorem dX10_isGame_21 : decode cX10_isGame 21 = .ok (.iload_n 2, 1) := by decide +kernel
theorem dX10_isGame_22 : decode cX10_isGame 22 = .ok (.iconst 0, 1) := by decide +kernel
theorem dX10_isGame_23 : decode cX10_isGame 23 = .ok (.iconst 2, 1) := by decide +kernel
theorem dX10_isGame_24 : decode cX10_isGame 24 = .ok (.invokestatic 103, 3) := by decide +kernel
theorem dX10_isGame_27 : decode cX10_isGame 27 = .ok (.ifCond .eq 7, 3) := by decide +kernel
theorem dX10_isGame_30 : decode cX10_isGame 30 = .ok (.iconst 1, 1) := by decide +kernel
theorem dX10_isGame_31 : decode cX10_isGame 31 = .ok (.goto 4, 3) := by decide +kernel
theorem dX10_isGame_34 : decode cX10_isGame 34 = .ok (.iconst 0, 1) := by decide +kernel
theorem dX10_isGame_35 : decode cX10_isGame 35 = .ok (.ireturn, 1) := by decide +kernel
set_option maxRecDepth 20000 in
theorem ggX10_isJudge_X10_within : GoodIn wsX10_isJudge wsX10_within := goodIn_r _ [5] (by decide +kernel) (by decide +kernel)
set_option maxRecDepth 20000 in
theorem gX10_isJudge_X10_within : GoodIn wsX10_isJudge (va_wsS RX10 103 yX10_within wsX10_within) := goodIn_app (goodIn_of _ (by decide +kernel)) ggX10_isJudge_X10_within
theorem dX10_isJudge_0 : decode cX10_isJudge 0 = .ok (.iload_n 1, 1) := by decide +kernel
theorem dX10_isJudge_1 : decode cX10_isJudge 1 = .ok (.iconst 0, 1) := by decide +kernel
theorem dX10_isJudge_2 : decode cX10_isJudge 2 = .ok (.aload_n 0, 1) := by decide +kernel
theorem dX10_isJudge_3 : decode cX10_isJudge 3 = .ok (.getfield 32, 3) := by decide +kernel
theorem dX10_isJudge_6 : decode cX10_isJudge 6 = .ok (.getfield 122, 3) := by decide +kernel
theorem dX10_isJudge_9 : decode cX10_isJudge 9 = .ok (.iconst 1, 1) := by decide +kernel
theorem dX10_isJudge_10 : decode cX10_isJudge 10 = .ok (.isub, 1) := by decide +kernel
theorem dX10_isJudge_11 : decode cX10_isJudge 11 = .ok (.invokestatic 103, 3) := by decide +kernel
theorem dX10_isJudge_14 : decode cX10_isJudge 14 = .ok (.ireturn, 1) := by decide +kernel
set_option maxRecDepth 20000 in
theorem ggX10_isScored_X10_isJudge : GoodIn wsX10_isScored wsX10_isJudge := goodIn_r _ [6, 1, 7, 8, 5, 9, 10, 11, 12, 13, 14, 15, 16, 17, 18, 19, 20, 21, 22, 23, 24, 25, 26, 27, 28, 29, 30, 31, 32, 33, 34, 35] (by decide +kernel) (by decide +kernel)
set_option maxRecDepth 20000 in
theorem gX10_isScored_X10_isJudge : GoodIn wsX10_isScored (wsV RX10 167 RX10 yX10_isJudge wsX10_isJudge) := goodIn_app (goodIn_of _ (by decide +kernel)) ggX10_isScored_X10_isJudge
set_option maxRecDepth 20000 in
theorem ggX10_isScored_X10_within : GoodIn wsX10_isScored wsX10_within := goodIn_r _ [9] (by decide +kernel) (by decide +kernel)
set_option maxRecDepth 20000 in
theorem gX10_isScored_X10_within : GoodIn wsX10_isScored (va_wsS RX10 103 yX10_within wsX10_within) := goodIn_app (goodIn_of _ (by decide +kernel)) ggX10_isScored_X10_within
theorem dX10_isScored_0 : decode cX10_isScored 0 = .ok (.aload_n 0, 1) := by decide +kernel
theorem dX10_isScored_1 : decode cX10_isScored 1 = .ok (.iload_n 1, 1) := by decide +kernel
theorem dX10_isScored_2 : decode cX10_isScored 2 = .ok (.invokevirtual 167, 3) := by decide +kernel
theorem dX10_isScored_5 : decode cX10_isScored 5 = .ok (.ifCond .eq 24, 3) := by decide +kernel
theorem dX10_isScored_8 : decode cX10_isScored 8 = .ok (.iload_n 2, 1) := by decide +kernel
theorem dX10_isScored_9 : decode cX10_isScored 9 = .ok (.iconst 0, 1) := by decide +kernel
theorem dX10_isScored_10 : decode cX10_isScored 10 = .ok (.aload_n 0, 1) := by decide +kernel
theorem dX10_isScored_11 : decode cX10_isScored 11 = .ok (.getfield 32, 3) := by decide +kernel
theorem dX10_isScored_14 : decode cX10_isScored 14 = .ok (.getfield 217, 3) := by decide +kernel
theorem dX10_isScored_17 : decode cX10_isScored 17 = .ok (.iconst 1, 1) := by decide +kernel
theorem dX10_isScored_18 : decode cX10_isScored 18 = .ok (.isub, 1) := by decide +kernel
theorem dX10_isScored_19 : decode cX10_isScored 19 = .ok (.invokestatic 103, 3) := by decide +kernel
theorem dX10_isScored_22 : decode cX10_isScored 22 = .ok (.ifCond .eq 7, 3) := by decide +kernel
theorem dX10_isScored_25 : decode cX10_isScored 25 = .ok (.iconst 1, 1) := by decide +kernel
theorem dX10_isScored_26 : decode cX10_isScored 26 = .ok (.goto 4, 3) := by decide +kernel
theorem dX10_isScored_29 : decode cX10_isScored 29 = .ok (.iconst 0, 1) := by decide +kernel
theorem dX10_isScored_30 : decode cX10_isScored 30 = .ok (.ireturn, 1) := by decide +kernel
set_option maxRecDepth 20000 in
theorem ggX10_areThree_X10_isJudge : GoodIn wsX10_areThree wsX10_isJudge := goodIn_r _ [5, 6, 7, 8, 4, 9, 10, 11, 12, 13, 14, 15, 16, 17, 18, 19, 20, 21, 22, 23, 24, 25, 26, 27, 28, 29, 30, 31, 32, 33, 34, 35] (by decide +kernel) (by decide +kernel)
set_option maxRecDepth 20000 in
theorem gX10_areThree_X10_isJudge : GoodIn wsX10_areThree (wsV RX10 167 RX10 yX10_isJudge wsX10_isJudge) := goodIn_app (goodIn_of _ (by decide +kernel)) ggX10_areThree_X10_isJudge
theorem dX10_areThree_0 : decode cX10_areThree 0 = .ok (.aload_n 0, 1) := by decide +kernel
theorem dX10_areThree_1 : decode cX10_areThree 1 = .ok (.iload_n 1, 1) := by decide +kernel
theorem dX10_areThree_2 : decode cX10_areThree 2 = .ok (.invokevirtual 167, 3) := by decide +kernel
theorem dX10_areThree_5 : decode cX10_areThree 5 = .ok (.ifCond .eq 38, 3) := by decide +kernel
theorem dX10_areThree_8 : decode cX10_areThree 8 = .ok (.aload_n 0, 1) := by decide +kernel
theorem dX10_areThree_9 : decode cX10_areThree 9 = .ok (.iload_n 2, 1) := by decide +kernel
theorem dX10_areThree_10 : decode cX10_areThree 10 = .ok (.invokevirtual 167, 3) := by decide +kernel
theorem dX10_areThree_13 : decode cX10_areThree 13 = .ok (.ifCond .eq 30, 3) := by decide +kernel
theorem dX10_areThree_16 : decode cX10_areThree 16 = .ok (.aload_n 0, 1) := by decide +kernel
theorem dX10_areThree_17 : decode cX10_areThree 17 = .ok (.iload_n 3, 1) := by decide +kernel
theorem dX10_areThree_18 : decode cX10_areThree 18 = .ok (.invokevirtual 167, 3) := by decide +kernel
theorem dX10_areThree_21 : decode cX10_areThree 21 = .ok (.ifCond .eq 22, 3) := by decide +kernel
theorem dX10_areThree_24 : decode cX10_areThree 24 = .ok (.iload_n 1, 1) := by decide +kernel
theorem dX10_areThree_25 : decode cX10_areThree 25 = .ok (.iload_n 2, 1) := by decide +kernel
theorem dX10_areThree_26 : decode cX10_areThree 26 = .ok (.if_icmp .eq 17, 3) := by decide +kernel
theorem dX10_areThree_29 : decode cX10_areThree 29 = .ok (.iload_n 1, 1) := by decide +kernel
theorem dX10_areThree_30 : decode cX10_areThree 30 = .ok (.iload_n 3, 1) := by decide +kernel
theorem dX10_areThree_31 : decode cX10_areThree 31 = .ok (.if_icmp .eq 12, 3) := by decide +kernel
theorem dX10_areThree_34 : decode cX10_areThree 34 = .ok (.iload_n 2, 1) := by decide +kernel
theorem dX10_areThree_35 : decode cX10_areThree 35 = .ok (.iload_n 3, 1) := by decide +kernel
theorem dX10_areThree_36 : decode cX10_areThree 36 = .ok (.if_icmp .eq 7, 3) := by decide +kernel
theorem dX10_areThree_39 : decode cX10_areThree 39 = .ok (.iconst 1, 1) := by decide +kernel
theorem dX10_areThree_40 : decode cX10_areThree 40 = .ok (.goto 4, 3) := by decide +kernel
theorem dX10_areThree_43 : decode cX10_areThree 43 = .ok (.iconst 0, 1) := by decide +kernel
theorem dX10_areThree_44 : decode cX10_areThree 44 = .ok (.ireturn, 1) := by decide +kernel
theorem dX10_signOf_0 : decode cX10_signOf 0 = .ok (.iload_n 0, 1) := by decide +kernel
theorem dX10_signOf_1 : decode cX10_signOf 1 = .ok (.ifCond .ne 5, 3) := by decide +kernel
theorem dX10_signOf_4 : decode cX10_signOf 4 = .ok (.iconst 0, 1) := by decide +kernel
theorem dX10_signOf_5 : decode cX10_signOf 5 = .ok (.ireturn, 1) := by decide +kernel
theorem dX10_signOf_6 : decode cX10_signOf 6 = .ok (.iload_n 0, 1) := by decide +kernel
theorem dX10_signOf_7 : decode cX10_signOf 7 = .ok (.ifCond .le 7, 3) := by decide +kernel
theorem dX10_signOf_10 : decode cX10_signOf 10 = .ok (.iconst 1, 1) := by decide +kernel
theorem dX10_signOf_11 : decode cX10_signOf 11 = .ok (.goto 4, 3) := by decide +kernel
theorem dX10_signOf_14 : decode cX10_signOf 14 = .ok (.iconst (-1), 1) := by decide +kernel
theorem dX10_signOf_15 : decode cX10_signOf 15 = .ok (.ireturn, 1) := by decide +kernel
theorem dX10_clip_0 : decode cX10_clip 0 = .ok (.iload_n 1, 1) := by decide +kernel
theorem dX10_clip_1 : decode cX10_clip 1 = .ok (.ineg, 1) := by decide +kernel
theorem dX10_clip_2 : decode cX10_clip 2 = .ok (.iload_n 1, 1) := by decide +kernel
theorem dX10_clip_3 : decode cX10_clip 3 = .ok (.iload_n 0, 1) := by decide +kernel
theorem dX10_clip_4 : decode cX10_clip 4 = .ok (.invokestatic 271, 3) := by decide +kernel
theorem dX10_clip_7 : decode cX10_clip 7 = .ok (.invokestatic 276, 3) := by decide +kernel
theorem dX10_clip_10 : decode cX10_clip 10 = .ok (.ireturn, 1) := by decide +kernel
theorem dJ11_isValidCodePoint_9a6ad_0 : decode cJ11_isValidCodePoint_9a6ad 0 = .ok (.iload_n 0, 1) := by decide +kernel
theorem dJ11_isValidCodePoint_9a6ad_1 : decode cJ11_isValidCodePoint_9a6ad 1 = .ok (.bipush 16, 2) := by decide +kernel
theorem dJ11_isValidCodePoint_9a6ad_3 : decode cJ11_isValidCodePoint_9a6ad 3 = .ok (.iushr, 1) := by decide +kernel
theorem dJ11_isValidCodePoint_9a6ad_4 : decode cJ11_isValidCodePoint_9a6ad 4 = .ok (.istore_n 1, 1) := by decide +kernel
theorem dJ11_isValidCodePoint_9a6ad_5 : decode cJ11_isValidCodePoint_9a6ad 5 = .ok (.iload_n 1, 1) := by decide +kernel
theorem dJ11_isValidCodePoint_9a6ad_6 : decode cJ11_isValidCodePoint_9a6ad 6 = .ok (.bipush 17, 2) := by decide +kernel
theorem dJ11_isValidCodePoint_9a6ad_8 : decode cJ11_isValidCodePoint_9a6ad 8 = .ok (.if_icmp .ge 7, 3) := by decide +kernel
theorem dJ11_isValidCodePoint_9a6ad_11 : decode cJ11_isValidCodePoint_9a6ad 11 = .ok (.iconst 1, 1) := by decide +kernel
theorem dJ11_isValidCodePoint_9a6ad_12 : decode cJ11_isValidCodePoint_9a6ad 12 = .ok (.goto 4, 3) := by decide +kernel
theorem dJ11_isValidCodePoint_9a6ad_15 : decode cJ11_isValidCodePoint_9a6ad 15 = .ok (.iconst 0, 1) := by decide +kernel
theorem dJ11_isValidCodePoint_9a6ad_16 : decode cJ11_isValidCodePoint_9a6ad 16 = .ok (.ireturn, 1) := by decide +kernel
theorem dJ11_highSurrogate_5068e_0 : decode cJ11_highSurrogate_5068e 0 = .ok (.iload_n 0, 1) := by decide +kernel
theorem dJ11_highSurrogate_5068e_1 : decode cJ11_highSurrogate_5068e 1 = .ok (.bipush 10, 2) := by decide +kernel
theorem dJ11_highSurrogate_5068e_3 : decode cJ11_highSurrogate_5068e 3 = .ok (.iushr, 1) := by decide +kernel
theorem dJ11_highSurrogate_5068e_4 : decode cJ11_highSurrogate_5068e 4 = .ok (.ldc 110, 2) := by decide +kernel
theorem dJ11_highSurrogate_5068e_6 : decode cJ11_highSurrogate_5068e 6 = .ok (.iadd, 1) := by decide +kernel
theorem dJ11_highSurrogate_5068e_7 : decode cJ11_highSurrogate_5068e 7 = .ok (.i2c, 1) := by decide +kernel
theorem dJ11_highSurrogate_5068e_8 : decode cJ11_highSurrogate_5068e 8 = .ok (.ireturn, 1) := by decide +kernel
theorem dJ11_lowSurrogate_5068e_0 : decode cJ11_lowSurrogate_5068e 0 = .ok (.iload_n 0, 1) := by decide +kernel
theorem dJ11_lowSurrogate_5068e_1 : decode cJ11_lowSurrogate_5068e 1 = .ok (.sipush 1023, 3) := by decide +kernel
theorem dJ11_lowSurrogate_5068e_4 : decode cJ11_lowSurrogate_5068e 4 = .ok (.iand, 1) := by decide +kernel
theorem dJ11_lowSurrogate_5068e_5 : decode cJ11_lowSurrogate_5068e 5 = .ok (.ldc 76, 2) := by decide +kernel
theorem dJ11_lowSurrogate_5068e_7 : decode cJ11_lowSurrogate_5068e 7 = .ok (.iadd, 1) := by decide +kernel
theorem dJ11_lowSurrogate_5068e_8 : decode cJ11_lowSurrogate_5068e 8 = .ok (.i2c, 1) := by decide +kernel
theorem dJ11_lowSurrogate_5068e_9 : decode cJ11_lowSurrogate_5068e 9 = .ok (.ireturn, 1) := by decide +kernel
theorem dJ6_bitCount_0f7a4_0 : decode cJ6_bitCount_0f7a4 0 = .ok (.iload_n 0, 1) := by decide +kernel
theorem dJ6_bitCount_0f7a4_1 : decode cJ6_bitCount_0f7a4 1 = .ok (.iload_n 0, 1) := by decide +kernel
theorem dJ6_bitCount_0f7a4_2 : decode cJ6_bitCount_0f7a4 2 = .ok (.iconst 1, 1) := by decide +kernel
theorem dJ6_bitCount_0f7a4_3 : decode cJ6_bitCount_0f7a4 3 = .ok (.iushr, 1) := by decide +kernel
theorem dJ6_bitCount_0f7a4_4 : decode cJ6_bitCount_0f7a4 4 = .ok (.ldc_w 265, 3) := by decide +kernel
theorem dJ6_bitCount_0f7a4_7 : decode cJ6_bitCount_0f7a4 7 = .ok (.iand, 1) := by decide +kernel
theorem dJ6_bitCount_0f7a4_8 : decode cJ6_bitCount_0f7a4 8 = .ok (.isub, 1) := by decide +kernel
theorem dJ6_bitCount_0f7a4_9 : decode cJ6_bitCount_0f7a4 9 = .ok (.istore_n 0, 1) := by decide +kernel
theorem dJ6_bitCount_0f7a4_10 : decode cJ6_bitCount_0f7a4 10 = .ok (.iload_n 0, 1) := by decide +kernel
theorem dJ6_bitCount_0f7a4_11 : decode cJ6_bitCount_0f7a4 11 = .ok (.ldc_w 266, 3) := by decide +kernel
theorem dJ6_bitCount_0f7a4_14 : decode cJ6_bitCount_0f7a4 14 = .ok (.iand, 1) := by decide +kernel
theorem dJ6_bitCount_0f7a4_15 : decode cJ6_bitCount_0f7a4 15 = .ok (.iload_n 0, 1) := by decide +kernel
theorem dJ6_bitCount_0f7a4_16 : decode cJ6_bitCount_0f7a4 16 = .ok (.iconst 2, 1) := by decide +kernel
theorem dJ6_bitCount_0f7a4_17 : decode cJ6_bitCount_0f7a4 17 = .ok (.iushr, 1) := by decide +kernel
theorem dJ6_bitCount_0f7a4_18 : decode cJ6_bitCount_0f7a4 18 = .ok (.ldc_w 266, 3) := by decide +kernel
theorem dJ6_bitCount_0f7a4_21 : decode cJ6_bitCount_0f7a4 21 = .ok (.iand, 1) := by decide +kernel
theorem dJ6_bitCount_0f7a4_22 : decode cJ6_bitCount_0f7a4 22 = .ok (.iadd, 1) := by decide +kernel
theorem dJ6_bitCount_0f7a4_23 : decode cJ6_bitCount_0f7a4 23 = .ok (.istore_n 0, 1) := by decide +kernel
theorem dJ6_bitCount_0f7a4_24 : decode cJ6_bitCount_0f7a4 24 = .ok (.iload_n 0, 1) := by decide +kernel
theorem dJ6_bitCount_0f7a4_25 : decode cJ6_bitCount_0f7a4 25 = .ok (.iload_n 0, 1) := by decide +kernel
theorem dJ6_bitCount_0f7a4_26 : decode cJ6_bitCount_0f7a4 26 = .ok (.iconst 4, 1) := by decide +kernel
theorem dJ6_bitCount_0f7a4_27 : decode cJ6_bitCount_0f7a4 27 = .ok (.iushr, 1) := by decide +kernel
theorem dJ6_bitCount_0f7a4_28 : decode cJ6_bitCount_0f7a4 28 = .ok (.iadd, 1) := by decide +kernel
theorem dJ6_bitCount_0f7a4_29 : decode cJ6_bitCount_0f7a4 29 = .ok (.ldc_w 267, 3) := by decide +kernel
theorem dJ6_bitCount_0f7a4_32 : decode cJ6_bitCount_0f7a4 32 = .ok (.iand, 1) := by decide +kernel
theorem dJ6_bitCount_0f7a4_33 : decode cJ6_bitCount_0f7a4 33 = .ok (.istore_n 0, 1) := by decide +kernel
theorem dJ6_bitCount_0f7a4_34 : decode cJ6_bitCount_0f7a4 34 = .ok (.iload_n 0, 1) := by decide +kernel
theorem dJ6_bitCount_0f7a4_35 : decode cJ6_bitCount_0f7a4 35 = .ok (.iload_n 0, 1) := by decide +kernel
theorem dJ6_bitCount_0f7a4_36 : decode cJ6_bitCount_0f7a4 36 = .ok (.bipush 8, 2) := by decide +kernel
theorem dJ6_bitCount_0f7a4_38 : decode cJ6_bitCount_0f7a4 38 = .ok (.iushr, 1) := by decide +kernel
theorem dJ6_bitCount_0f7a4_39 : decode cJ6_bitCount_0f7a4 39 = .ok (.iadd, 1) := by decide +kernel
theorem dJ6_bitCount_0f7a4_40 : decode cJ6_bitCount_0f7a4 40 = .ok (.istore_n 0, 1) := by decide +kernel
theorem dJ6_bitCount_0f7a4_41 : decode cJ6_bitCount_0f7a4 41 = .ok (.iload_n 0, 1) := by decide +kernel
theorem dJ6_bitCount_0f7a4_42 : decode cJ6_bitCount_0f7a4 42 = .ok (.iload_n 0, 1) := by decide +kernel
theorem dJ6_bitCount_0f7a4_43 : decode cJ6_bitCount_0f7a4 43 = .ok (.bipush 16, 2) := by decide +kernel
theorem dJ6_bitCount_0f7a4_45 : decode cJ6_bitCount_0f7a4 45 = .ok (.iushr, 1) := by decide +kernel
theorem dJ6_bitCount_0f7a4_46 : decode cJ6_bitCount_0f7a4 46 = .ok (.iadd, 1) := by decide +kernel
theorem dJ6_bitCount_0f7a4_47 : decode cJ6_bitCount_0f7a4 47 = .ok (.istore_n 0, 1) := by decide +kernel
theorem dJ6_bitCount_0f7a4_48 : decode cJ6_bitCount_0f7a4 48 = .ok (.iload_n 0, 1) := by decide +kernel
theorem dJ6_bitCount_0f7a4_49 : decode cJ6_bitCount_0f7a4 49 = .ok (.bipush 63, 2) := by decide +kernel
theorem dJ6_bitCount_0f7a4_51 : decode cJ6_bitCount_0f7a4 51 = .ok (.iand, 1) := by decide +kernel
theorem dJ6_bitCount_0f7a4_52 : decode cJ6_bitCount_0f7a4 52 = .ok (.ireturn, 1) := by decide +kernel
theorem dJ9_abs_0f7a4_0 : decode cJ9_abs_0f7a4 0 = .ok (.iload_n 0, 1) := by decide +kernel
theorem dJ9_abs_0f7a4_1 : decode cJ9_abs_0f7a4 1 = .ok (.ifCond .ge 8, 3) := by decide +kernel
theorem dJ9_abs_0f7a4_4 : decode cJ9_abs_0f7a4 4 = .ok (.iload_n 0, 1) := by decide +kernel
theorem dJ9_abs_0f7a4_5 : decode cJ9_abs_0f7a4 5 = .ok (.ineg, 1) := by decide +kernel
theorem dJ9_abs_0f7a4_6 : decode cJ9_abs_0f7a4 6 = .ok (.goto 4, 3) := by decide +kernel
theorem dJ9_abs_0f7a4_9 : decode cJ9_abs_0f7a4 9 = .ok (.iload_n 0, 1) := by decide +kernel
theorem dJ9_abs_0f7a4_10 : decode cJ9_abs_0f7a4 10 = .ok (.ireturn, 1) := by decide +kernel
theorem dJ9_max_7cf53_0 : decode cJ9_max_7cf53 0 = .ok (.iload_n 0, 1) := by decide +kernel
theorem dJ9_max_7cf53_1 : decode cJ9_max_7cf53 1 = .ok (.iload_n 1, 1) := by decide +kernel
theorem dJ9_max_7cf53_2 : decode cJ9_max_7cf53 2 = .ok (.if_icmp .lt 7, 3) := by decide +kernel
theorem dJ9_max_7cf53_5 : decode cJ9_max_7cf53 5 = .ok (.iload_n 0, 1) := by decide +kernel
theorem dJ9_max_7cf53_6 : decode cJ9_max_7cf53 6 = .ok (.goto 4, 3) := by decide +kernel
theorem dJ9_max_7cf53_9 : decode cJ9_max_7cf53 9 = .ok (.iload_n 1, 1) := by decide +kernel
theorem dJ9_max_7cf53_10 : decode cJ9_max_7cf53 10 = .ok (.ireturn, 1) := by decide +kernel
theorem dJ9_min_7cf53_0 : decode cJ9_min_7cf53 0 = .ok (.iload_n 0, 1) := by decide +kernel
theorem dJ9_min_7cf53_1 : decode cJ9_min_7cf53 1 = .ok (.iload_n 1, 1) := by decide +kernel
theorem dJ9_min_7cf53_2 : decode cJ9_min_7cf53 2 = .ok (.if_icmp .gt 7, 3) := by decide +kernel
theorem dJ9_min_7cf53_5 : decode cJ9_min_7cf53 5 = .ok (.iload_n 0, 1) := by decide +kernel
theorem dJ9_min_7cf53_6 : decode cJ9_min_7cf53 6 = .ok (.goto 4, 3) := by decide +kernel
theorem dJ9_min_7cf53_9 : decode cJ9_min_7cf53 9 = .ok (.iload_n 1, 1) := by decide +kernel
theorem dJ9_min_7cf53_10 : decode cJ9_min_7cf53 10 = .ok (.ireturn, 1) := by decide +kernel
set_option maxRecDepth 20000 in
theorem ggJ0_length_8abf5_J0_coder_7d493 : GoodIn wsJ0_length_8abf5 wsJ0_coder_7d493 := goodIn_r _ [6, 7, 8] (by decide +kernel) (by decide +kernel)
set_option maxRecDepth 20000 in
theorem gJ0_length_8abf5_J0_coder_7d493 : GoodIn wsJ0_length_8abf5 (wsV RJ0 335 RJ0 yJ0_coder_7d493 wsJ0_coder_7d493) := goodIn_app (goodIn_of _ (by decide +kernel)) ggJ0_length_8abf5_J0_coder_7d493
theorem dJ0_length_8abf5_0 : decode cJ0_length_8abf5 0 = .ok (.aload_n 0, 1) := by decide +kernel
theorem dJ0_length_8abf5_1 : decode cJ0_length_8abf5 1 = .ok (.getfield 9, 3) := by decide +kernel
theorem dJ0_length_8abf5_4 : decode cJ0_length_8abf5 4 = .ok (.arraylength, 1) := by decide +kernel
theorem dJ0_length_8abf5_5 : decode cJ0_length_8abf5 5 = .ok (.aload_n 0, 1) := by decide +kernel
theorem dJ0_length_8abf5_6 : decode cJ0_length_8abf5 6 = .ok (.invokevirtual 335, 3) := by decide +kernel
theorem dJ0_length_8abf5_9 : decode cJ0_length_8abf5 9 = .ok (.ishr, 1) := by decide +kernel
theorem dJ0_length_8abf5_10 : decode cJ0_length_8abf5 10 = .ok (.ireturn, 1) := by decide +kernel
set_option maxRecDepth 20000 in
theorem ggJ0_indexOf_0f7a4_J0_indexOf_7cf53 : GoodIn wsJ0_indexOf_0f7a4 wsJ0_indexOf_7cf53 := goodIn_r _ [5, 6, 7, 8, 9, 4, 10, 11, 12, 13, 14, 15, 16, 17, 18, 19, 20, 21, 22, 23, 24, 25, 26, 27, 28, 29, 30, 31, 32, 33, 34, 35, 36, 37, 38, 39, 40, 41, 42, 43, 44, 45, 46, 47, 48, 49, 50, 51, 52, 53, 54, 55, 56, 57, 58, 59, 60, 61, 62, 63, 64, 65, 66, 67, 68, 69, 70, 71, 72, 73, 74, 75, 76, 77, 78, 79, 80, 81, 82, 83, 84, 85] (by decide +kernel) (by decide +kernel)
set_option maxRecDepth 20000 in
theorem gJ0_indexOf_0f7a4_J0_indexOf_7cf53 : GoodIn wsJ0_indexOf_0f7a4 (wsV RJ0 633 RJ0 yJ0_indexOf_7cf53 wsJ0_indexOf_7cf53) := goodIn_app (goodIn_of _ (by decide +kernel)) ggJ0_indexOf_0f7a4_J0_indexOf_7cf53
theorem dJ0_indexOf_0f7a4_0 : decode cJ0_indexOf_0f7a4 0 = .ok (.aload_n 0, 1) := by decide +kernel
theorem dJ0_indexOf_0f7a4_1 : decode cJ0_indexOf_0f7a4 1 = .ok (.iload_n 1, 1) := by decide +kernel
theorem dJ0_indexOf_0f7a4_2 : decode cJ0_indexOf_0f7a4 2 = .ok (.iconst 0, 1) := by decide +kernel
theorem dJ0_indexOf_0f7a4_3 : decode cJ0_indexOf_0f7a4 3 = .ok (.invokevirtual 633, 3) := by decide +kernel
theorem dJ0_indexOf_0f7a4_6 : decode cJ0_indexOf_0f7a4 6 = .ok (.ireturn, 1) := by decide +kernel
set_option maxRecDepth 20000 in
theorem ggJ0_indexOf_7cf53_J0_isLatin1_aae02 : GoodIn wsJ0_indexOf_7cf53 wsJ0_isLatin1_aae02 := goodIn_r _ [6, 7, 8] (by decide +kernel) (by decide +kernel)
set_option maxRecDepth 20000 in
theorem gJ0_indexOf_7cf53_J0_isLatin1_aae02 : GoodIn wsJ0_indexOf_7cf53 (wsV RJ0 492 RJ0 yJ0_isLatin1_aae02 wsJ0_isLatin1_aae02) := goodIn_app (goodIn_of _ (by decide +kernel)) ggJ0_indexOf_7cf53_J0_isLatin1_aae02
set_option maxRecDepth 20000 in
theorem ggJ0_indexOf_7cf53_J0_length_8abf5 : GoodIn wsJ0_indexOf_7cf53 wsJ0_length_8abf5 := goodIn_r _ [12, 1, 13, 14, 15, 5, 16, 7, 8] (by decide +kernel) (by decide +kernel)
set_option maxRecDepth 20000 in
theorem gJ0_indexOf_7cf53_J0_length_8abf5 : GoodIn wsJ0_indexOf_7cf53 (wsV RJ0 505 RJ0 yJ0_length_8abf5 wsJ0_length_8abf5) := goodIn_app (goodIn_of _ (by decide +kernel)) ggJ0_indexOf_7cf53_J0_length_8abf5
set_option maxRecDepth 20000 in
theorem ggJ0_indexOf_7cf53_J1_indexOf_4cfef : GoodIn wsJ0_indexOf_7cf53 wsJ1_indexOf_4cfef := goodIn_r _ [20, 21, 22, 23, 24, 25, 26, 27, 28, 29, 19, 30, 31, 32, 33] (by decide +kernel) (by decide +kernel)
set_option maxRecDepth 20000 in
theorem gJ0_indexOf_7cf53_J1_indexOf_4cfef : GoodIn wsJ0_indexOf_7cf53 (va_wsS RJ0 637 yJ1_indexOf_4cfef wsJ1_indexOf_4cfef) := goodIn_app (goodIn_of _ (by decide +kernel)) ggJ0_indexOf_7cf53_J1_indexOf_4cfef
set_option maxRecDepth 20000 in
theorem ggJ0_indexOf_7cf53_J2_indexOf_4cfef : GoodIn wsJ0_indexOf_7cf53 wsJ2_indexOf_4cfef := goodIn_r _ [37, 38, 22, 23, 24, 39, 26, 27, 40, 41, 42, 36, 43, 44, 45, 46, 47, 48, 49, 50, 51, 5, 52, 53, 54, 55, 56, 57, 58, 59, 60, 61, 62, 63, 64, 65, 66, 67, 68, 69, 70, 71, 72, 73, 74, 75, 76, 77, 78, 79, 80, 81] (by decide +kernel) (by decide +kernel)
set_option maxRecDepth 20000 in
theorem gJ0_indexOf_7cf53_J2_indexOf_4cfef : GoodIn wsJ0_indexOf_7cf53 (va_wsS RJ0 640 yJ2_indexOf_4cfef wsJ2_indexOf_4cfef) := goodIn_app (goodIn_of _ (by decide +kernel)) ggJ0_indexOf_7cf53_J2_indexOf_4cfef
theorem dJ0_indexOf_7cf53_0 : decode cJ0_indexOf_7cf53 0 = .ok (.aload_n 0, 1) := by decide +kernel
theorem dJ0_indexOf_7cf53_1 : decode cJ0_indexOf_7cf53 1 = .ok (.invokevirtual 492, 3) := by decide +kernel
theorem dJ0_indexOf_7cf53_4 : decode cJ0_indexOf_7cf53 4 = .ok (.ifCond .eq 19, 3) := by decide +kernel
theorem dJ0_indexOf_7cf53_7 : decode cJ0_indexOf_7cf53 7 = .ok (.aload_n 0, 1) := by decide +kernel
theorem dJ0_indexOf_7cf53_8 : decode cJ0_indexOf_7cf53 8 = .ok (.getfield 9, 3) := by decide +kernel
theorem dJ0_indexOf_7cf53_11 : decode cJ0_indexOf_7cf53 11 = .ok (.iload_n 1, 1) := by decide +kernel
theorem dJ0_indexOf_7cf53_12 : decode cJ0_indexOf_7cf53 12 = .ok (.iload_n 2, 1) := by decide +kernel
theorem dJ0_indexOf_7cf53_13 : decode cJ0_indexOf_7cf53 13 = .ok (.aload_n 0, 1) := by decide +kernel
theorem dJ0_indexOf_7cf53_14 : decode cJ0_indexOf_7cf53 14 = .ok (.invokevirtual 505, 3) := by decide +kernel
theorem dJ0_indexOf_7cf53_17 : decode cJ0_indexOf_7cf53 17 = .ok (.invokestatic 637, 3) := by decide +kernel
theorem dJ0_indexOf_7cf53_20 : decode cJ0_indexOf_7cf53 20 = .ok (.goto 16, 3) := by decide +kernel
theorem dJ0_indexOf_7cf53_23 : decode cJ0_indexOf_7cf53 23 = .ok (.aload_n 0, 1) := by decide +kernel
theorem dJ0_indexOf_7cf53_24 : decode cJ0_indexOf_7cf53 24 = .ok (.getfield 9, 3) := by decide +kernel
theorem dJ0_indexOf_7cf53_27 : decode cJ0_indexOf_7cf53 27 = .ok (.iload_n 1, 1) := by decide +kernel
theorem dJ0_indexOf_7cf53_28 : decode cJ0_indexOf_7cf53 28 = .ok (.iload_n 2, 1) := by decide +kernel
theorem dJ0_indexOf_7cf53_29 : decode cJ0_indexOf_7cf53 29 = .ok (.aload_n 0, 1) := by decide +kernel
theorem dJ0_indexOf_7cf53_30 : decode cJ0_indexOf_7cf53 30 = .ok (.invokevirtual 505, 3) := by decide +kernel
theorem dJ0_indexOf_7cf53_33 : decode cJ0_indexOf_7cf53 33 = .ok (.invokestatic 640, 3) := by decide +kernel
theorem dJ0_indexOf_7cf53_36 : decode cJ0_indexOf_7cf53 36 = .ok (.ireturn, 1) := by decide +kernel
theorem dJ0_coder_7d493_0 : decode cJ0_coder_7d493 0 = .ok (.getstatic 38, 3) := by decide +kernel
theorem dJ0_coder_7d493_3 : decode cJ0_coder_7d493 3 = .ok (.ifCond .eq 10, 3) := by decide +kernel
theorem dJ0_coder_7d493_6 : decode cJ0_coder_7d493 6 = .ok (.aload_n 0, 1) := by decide +kernel
theorem dJ0_coder_7d493_7 : decode cJ0_coder_7d493 7 = .ok (.getfield 15, 3) := by decide +kernel
theorem dJ0_coder_7d493_10 : decode cJ0_coder_7d493 10 = .ok (.goto 4, 3) := by decide +kernel
theorem dJ0_coder_7d493_13 : decode cJ0_coder_7d493 13 = .ok (.iconst 1, 1) := by decide +kernel
theorem dJ0_coder_7d493_14 : decode cJ0_coder_7d493 14 = .ok (.ireturn, 1) := by decide +kernel
theorem dJ0_isLatin1_aae02_0 : decode cJ0_isLatin1_aae02 0 = .ok (.getstatic 38, 3) := by decide +kernel
theorem dJ0_isLatin1_aae02_3 : decode cJ0_isLatin1_aae02 3 = .ok (.ifCond .eq 14, 3) := by decide +kernel
theorem dJ0_isLatin1_aae02_6 : decode cJ0_isLatin1_aae02 6 = .ok (.aload_n 0, 1) := by decide +kernel
theorem dJ0_isLatin1_aae02_7 : decode cJ0_isLatin1_aae02 7 = .ok (.getfield 15, 3) := by decide +kernel
theorem dJ0_isLatin1_aae02_10 : decode cJ0_isLatin1_aae02 10 = .ok (.ifCond .ne 7, 3) := by decide +kernel
theorem dJ0_isLatin1_aae02_13 : decode cJ0_isLatin1_aae02 13 = .ok (.iconst 1, 1) := by decide +kernel
theorem dJ0_isLatin1_aae02_14 : decode cJ0_isLatin1_aae02 14 = .ok (.goto 4, 3) := by decide +kernel
theorem dJ0_isLatin1_aae02_17 : decode cJ0_isLatin1_aae02 17 = .ok (.iconst 0, 1) := by decide +kernel
theorem dJ0_isLatin1_aae02_18 : decode cJ0_isLatin1_aae02 18 = .ok (.ireturn, 1) := by decide +kernel
set_option maxRecDepth 20000 in
theorem ggJ0_checkBoundsBeginEnd_23922_J3_checkFromToIndex_8c36e : GoodIn wsJ0_checkBoundsBeginEnd_23922 wsJ3_checkFromToIndex_8c36e := goodIn_r _ [5] (by decide +kernel) (by decide +kernel)
set_option maxRecDepth 20000 in
theorem gJ0_checkBoundsBeginEnd_23922_J3_checkFromToIndex_8c36e : GoodIn wsJ0_checkBoundsBeginEnd_23922 (va_wsS RJ0 1062 yJ3_checkFromToIndex_8c36e wsJ3_checkFromToIndex_8c36e) := goodIn_app (goodIn_of _ (by decide +kernel)) ggJ0_checkBoundsBeginEnd_23922_J3_checkFromToIndex_8c36e
theorem dJ0_checkBoundsBeginEnd_23922_0 : decode cJ0_checkBoundsBeginEnd_23922 0 = .ok (.iload_n 0, 1) := by decide +kernel
theorem dJ0_checkBoundsBeginEnd_23922_1 : decode cJ0_checkBoundsBeginEnd_23922 1 = .ok (.iload_n 1, 1) := by decide +kernel
theorem dJ0_checkBoundsBeginEnd_23922_2 : decode cJ0_checkBoundsBeginEnd_23922 2 = .ok (.iload_n 2, 1) := by decide +kernel
theorem dJ0_checkBoundsBeginEnd_23922_3 : decode cJ0_checkBoundsBeginEnd_23922 3 = .ok (.getstatic 1053, 3) := by decide +kernel
theorem dJ0_checkBoundsBeginEnd_23922_6 : decode cJ0_checkBoundsBeginEnd_23922 6 = .ok (.invokestatic 1062, 3) := by decide +kernel
theorem dJ0_checkBoundsBeginEnd_23922_9 : decode cJ0_checkBoundsBeginEnd_23922 9 = .ok (.pop, 1) := by decide +kernel
theorem dJ0_checkBoundsBeginEnd_23922_10 : decode cJ0_checkBoundsBeginEnd_23922 10 = .ok (.return_, 1) := by decide +kernel
theorem dJ1_canEncode_9a6ad_0 : decode cJ1_canEncode_9a6ad 0 = .ok (.iload_n 0, 1) := by decide +kernel
theorem dJ1_canEncode_9a6ad_1 : decode cJ1_canEncode_9a6ad 1 = .ok (.ifCond .lt 14, 3) := by decide +kernel
theorem dJ1_canEncode_9a6ad_4 : decode cJ1_canEncode_9a6ad 4 = .ok (.iload_n 0, 1) := by decide +kernel
theorem dJ1_canEncode_9a6ad_5 : decode cJ1_canEncode_9a6ad 5 = .ok (.sipush 255, 3) := by decide +kernel
theorem dJ1_canEncode_9a6ad_8 : decode cJ1_canEncode_9a6ad 8 = .ok (.if_icmp .gt 7, 3) := by decide +kernel
theorem dJ1_canEncode_9a6ad_11 : decode cJ1_canEncode_9a6ad 11 = .ok (.iconst 1, 1) := by decide +kernel
theorem dJ1_canEncode_9a6ad_12 : decode cJ1_canEncode_9a6ad 12 = .ok (.goto 4, 3) := by decide +kernel
theorem dJ1_canEncode_9a6ad_15 : decode cJ1_canEncode_9a6ad 15 = .ok (.iconst 0, 1) := by decide +kernel
theorem dJ1_canEncode_9a6ad_16 : decode cJ1_canEncode_9a6ad 16 = .ok (.ireturn, 1) := by decide +kernel
set_option maxRecDepth 20000 in
theorem ggJ1_indexOf_4cfef_J1_canEncode_9a6ad : GoodIn wsJ1_indexOf_4cfef wsJ1_canEncode_9a6ad := goodIn_r _ [11] (by decide +kernel) (by decide +kernel)
set_option maxRecDepth 20000 in
theorem gJ1_indexOf_4cfef_J1_canEncode_9a6ad : GoodIn wsJ1_indexOf_4cfef (va_wsS RJ1 88 yJ1_canEncode_9a6ad wsJ1_canEncode_9a6ad) := goodIn_app (goodIn_of _ (by decide +kernel)) ggJ1_indexOf_4cfef_J1_canEncode_9a6ad
set_option maxRecDepth 20000 in
theorem ggJ1_indexOf_4cfef_J1_indexOfChar_4cfef : GoodIn wsJ1_indexOf_4cfef wsJ1_indexOfChar_4cfef := goodIn_r _ [14] (by decide +kernel) (by decide +kernel)
set_option maxRecDepth 20000 in
theorem gJ1_indexOf_4cfef_J1_indexOfChar_4cfef : GoodIn wsJ1_indexOf_4cfef (va_wsS RJ1 95 yJ1_indexOfChar_4cfef wsJ1_indexOfChar_4cfef) := goodIn_app (goodIn_of _ (by decide +kernel)) ggJ1_indexOf_4cfef_J1_indexOfChar_4cfef
theorem dJ1_indexOf_4cfef_0 : decode cJ1_indexOf_4cfef 0 = .ok (.iload_n 1, 1) := by decide +kernel
theorem dJ1_indexOf_4cfef_1 : decode cJ1_indexOf_4cfef 1 = .ok (.invokestatic 88, 3) := by decide +kernel
theorem dJ1_indexOf_4cfef_4 : decode cJ1_indexOf_4cfef 4 = .ok (.ifCond .ne 5, 3) := by decide +kernel
theorem dJ1_indexOf_4cfef_7 : decode cJ1_indexOf_4cfef 7 = .ok (.iconst (-1), 1) := by decide +kernel
theorem dJ1_indexOf_4cfef_8 : decode cJ1_indexOf_4cfef 8 = .ok (.ireturn, 1) := by decide +kernel
theorem dJ1_indexOf_4cfef_9 : decode cJ1_indexOf_4cfef 9 = .ok (.iload_n 2, 1) := by decide +kernel
theorem dJ1_indexOf_4cfef_10 : decode cJ1_indexOf_4cfef 10 = .ok (.iconst 0, 1) := by decide +kernel
theorem dJ1_indexOf_4cfef_11 : decode cJ1_indexOf_4cfef 11 = .ok (.invokestatic 92, 3) := by decide +kernel
theorem dJ1_indexOf_4cfef_14 : decode cJ1_indexOf_4cfef 14 = .ok (.istore_n 2, 1) := by decide +kernel
theorem dJ1_indexOf_4cfef_15 : decode cJ1_indexOf_4cfef 15 = .ok (.iload_n 3, 1) := by decide +kernel
theorem dJ1_indexOf_4cfef_16 : decode cJ1_indexOf_4cfef 16 = .ok (.aload_n 0, 1) := by decide +kernel
theorem dJ1_indexOf_4cfef_17 : decode cJ1_indexOf_4cfef 17 = .ok (.arraylength, 1) := by decide +kernel
theorem dJ1_indexOf_4cfef_18 : decode cJ1_indexOf_4cfef 18 = .ok (.invokestatic 38, 3) := by decide +kernel
theorem dJ1_indexOf_4cfef_21 : decode cJ1_indexOf_4cfef 21 = .ok (.istore_n 3, 1) := by decide +kernel
theorem dJ1_indexOf_4cfef_22 : decode cJ1_indexOf_4cfef 22 = .ok (.iload_n 2, 1) := by decide +kernel
theorem dJ1_indexOf_4cfef_23 : decode cJ1_indexOf_4cfef 23 = .ok (.iload_n 3, 1) := by decide +kernel
theorem dJ1_indexOf_4cfef_24 : decode cJ1_indexOf_4cfef 24 = .ok (.if_icmp .lt 5, 3) := by decide +kernel
theorem dJ1_indexOf_4cfef_27 : decode cJ1_indexOf_4cfef 27 = .ok (.iconst (-1), 1) := by decide +kernel
theorem dJ1_indexOf_4cfef_28 : decode cJ1_indexOf_4cfef 28 = .ok (.ireturn, 1) := by decide +kernel
theorem dJ1_indexOf_4cfef_29 : decode cJ1_indexOf_4cfef 29 = .ok (.aload_n 0, 1) := by decide +kernel
theorem dJ1_indexOf_4cfef_30 : decode cJ1_indexOf_4cfef 30 = .ok (.iload_n 1, 1) := by decide +kernel
theorem dJ1_indexOf_4cfef_31 : decode cJ1_indexOf_4cfef 31 = .ok (.iload_n 2, 1) := by decide +kernel
theorem dJ1_indexOf_4cfef_32 : decode cJ1_indexOf_4cfef 32 = .ok (.iload_n 3, 1) := by decide +kernel
theorem dJ1_indexOf_4cfef_33 : decode cJ1_indexOf_4cfef 33 = .ok (.invokestatic 95, 3) := by decide +kernel
theorem dJ1_indexOf_4cfef_36 : decode cJ1_indexOf_4cfef 36 = .ok (.ireturn, 1) := by decide +kernel
theorem dJ1_indexOfChar_4cfef_0 : decode cJ1_indexOfChar_4cfef 0 = .ok (.iload_n 1, 1) := by decide +kernel
theorem dJ1_indexOfChar_4cfef_1 : decode cJ1_indexOfChar_4cfef 1 = .ok (.i2b, 1) := by decide +kernel
theorem dJ1_indexOfChar_4cfef_2 : decode cJ1_indexOfChar_4cfef 2 = .ok (.istore 4, 2) := by decide +kernel
theorem dJ1_indexOfChar_4cfef_4 : decode cJ1_indexOfChar_4cfef 4 = .ok (.iload_n 2, 1) := by decide +kernel
theorem dJ1_indexOfChar_4cfef_5 : decode cJ1_indexOfChar_4cfef 5 = .ok (.istore 5, 2) := by decide +kernel
theorem dJ1_indexOfChar_4cfef_7 : decode cJ1_indexOfChar_4cfef 7 = .ok (.iload 5, 2) := by decide +kernel
theorem dJ1_indexOfChar_4cfef_9 : decode cJ1_indexOfChar_4cfef 9 = .ok (.iload_n 3, 1) := by decide +kernel
theorem dJ1_indexOfChar_4cfef_10 : decode cJ1_indexOfChar_4cfef 10 = .ok (.if_icmp .ge 21, 3) := by decide +kernel
theorem dJ1_indexOfChar_4cfef_13 : decode cJ1_indexOfChar_4cfef 13 = .ok (.aload_n 0, 1) := by decide +kernel
theorem dJ1_indexOfChar_4cfef_14 : decode cJ1_indexOfChar_4cfef 14 = .ok (.iload 5, 2) := by decide +kernel
theorem dJ1_indexOfChar_4cfef_16 : decode cJ1_indexOfChar_4cfef 16 = .ok (.baload, 1) := by decide +kernel
theorem dJ1_indexOfChar_4cfef_17 : decode cJ1_indexOfChar_4cfef 17 = .ok (.iload 4, 2) := by decide +kernel
theorem dJ1_indexOfChar_4cfef_19 : decode cJ1_indexOfChar_4cfef 19 = .ok (.if_icmp .ne 6, 3) := by decide +kernel
theorem dJ1_indexOfChar_4cfef_22 : decode cJ1_indexOfChar_4cfef 22 = .ok (.iload 5, 2) := by decide +kernel
theorem dJ1_indexOfChar_4cfef_24 : decode cJ1_indexOfChar_4cfef 24 = .ok (.ireturn, 1) := by decide +kernel
theorem dJ1_indexOfChar_4cfef_25 : decode cJ1_indexOfChar_4cfef 25 = .ok (.iinc 5 1, 3) := by decide +kernel
theorem dJ1_indexOfChar_4cfef_28 : decode cJ1_indexOfChar_4cfef 28 = .ok (.goto (-21), 3) := by decide +kernel
theorem dJ1_indexOfChar_4cfef_31 : decode cJ1_indexOfChar_4cfef 31 = .ok (.iconst (-1), 1) := by decide +kernel
theorem dJ1_indexOfChar_4cfef_32 : decode cJ1_indexOfChar_4cfef 32 = .ok (.ireturn, 1) := by decide +kernel
set_option maxRecDepth 20000 in
theorem ggJ2_getChar_3b067_J2_length_9d52b : GoodIn wsJ2_getChar_3b067 wsJ2_length_9d52b := goodIn_r _ [7] (by decide +kernel) (by decide +kernel)
set_option maxRecDepth 20000 in
theorem gJ2_getChar_3b067_J2_length_9d52b : GoodIn wsJ2_getChar_3b067 (va_wsS RJ2 48 yJ2_length_9d52b wsJ2_length_9d52b) := goodIn_app (goodIn_of _ (by decide +kernel)) ggJ2_getChar_3b067_J2_length_9d52b
theorem dJ2_getChar_3b067_0 : decode cJ2_getChar_3b067 0 = .ok (.getstatic 44, 3) := by decide +kernel
theorem dJ2_getChar_3b067_3 : decode cJ2_getChar_3b067 3 = .ok (.ifCond .ne 25, 3) := by decide +kernel
theorem dJ2_getChar_3b067_6 : decode cJ2_getChar_3b067 6 = .ok (.iload_n 1, 1) := by decide +kernel
theorem dJ2_getChar_3b067_7 : decode cJ2_getChar_3b067 7 = .ok (.ifCond .lt 11, 3) := by decide +kernel
theorem dJ2_getChar_3b067_10 : decode cJ2_getChar_3b067 10 = .ok (.iload_n 1, 1) := by decide +kernel
theorem dJ2_getChar_3b067_11 : decode cJ2_getChar_3b067 11 = .ok (.aload_n 0, 1) := by decide +kernel
theorem dJ2_getChar_3b067_12 : decode cJ2_getChar_3b067 12 = .ok (.invokestatic 48, 3) := by decide +kernel
theorem dJ2_getChar_3b067_15 : decode cJ2_getChar_3b067 15 = .ok (.if_icmp .lt 13, 3) := by decide +kernel
theorem dJ2_getChar_3b067_18 : decode cJ2_getChar_3b067 18 = .ok (.new 52, 3) := by decide +kernel
theorem dJ2_getChar_3b067_21 : decode cJ2_getChar_3b067 21 = .ok (.dup, 1) := by decide +kernel
theorem dJ2_getChar_3b067_22 : decode cJ2_getChar_3b067 22 = .ok (.ldc 54, 2) := by decide +kernel
theorem dJ2_getChar_3b067_24 : decode cJ2_getChar_3b067 24 = .ok (.invokespecial 56, 3) := by decide +kernel
theorem dJ2_getChar_3b067_27 : decode cJ2_getChar_3b067 27 = .ok (.athrow, 1) := by decide +kernel
theorem dJ2_getChar_3b067_28 : decode cJ2_getChar_3b067 28 = .ok (.iload_n 1, 1) := by decide +kernel
theorem dJ2_getChar_3b067_29 : decode cJ2_getChar_3b067 29 = .ok (.iconst 1, 1) := by decide +kernel
theorem dJ2_getChar_3b067_30 : decode cJ2_getChar_3b067 30 = .ok (.ishl, 1) := by decide +kernel
theorem dJ2_getChar_3b067_31 : decode cJ2_getChar_3b067 31 = .ok (.istore_n 1, 1) := by decide +kernel
theorem dJ2_getChar_3b067_32 : decode cJ2_getChar_3b067 32 = .ok (.aload_n 0, 1) := by decide +kernel
theorem dJ2_getChar_3b067_33 : decode cJ2_getChar_3b067 33 = .ok (.iload_n 1, 1) := by decide +kernel
theorem dJ2_getChar_3b067_34 : decode cJ2_getChar_3b067 34 = .ok (.iinc 1 1, 3) := by decide +kernel
theorem dJ2_getChar_3b067_37 : decode cJ2_getChar_3b067 37 = .ok (.baload, 1) := by decide +kernel
theorem dJ2_getChar_3b067_38 : decode cJ2_getChar_3b067 38 = .ok (.sipush 255, 3) := by decide +kernel
theorem dJ2_getChar_3b067_41 : decode cJ2_getChar_3b067 41 = .ok (.iand, 1) := by decide +kernel
theorem dJ2_getChar_3b067_42 : decode cJ2_getChar_3b067 42 = .ok (.getstatic 59, 3) := by decide +kernel
theorem dJ2_getChar_3b067_45 : decode cJ2_getChar_3b067 45 = .ok (.ishl, 1) := by decide +kernel
theorem dJ2_getChar_3b067_46 : decode cJ2_getChar_3b067 46 = .ok (.aload_n 0, 1) := by decide +kernel
theorem dJ2_getChar_3b067_47 : decode cJ2_getChar_3b067 47 = .ok (.iload_n 1, 1) := by decide +kernel
theorem dJ2_getChar_3b067_48 : decode cJ2_getChar_3b067 48 = .ok (.baload, 1) := by decide +kernel
theorem dJ2_getChar_3b067_49 : decode cJ2_getChar_3b067 49 = .ok (.sipush 255, 3) := by decide +kernel
theorem dJ2_getChar_3b067_52 : decode cJ2_getChar_3b067 52 = .ok (.iand, 1) := by decide +kernel
theorem dJ2_getChar_3b067_53 : decode cJ2_getChar_3b067 53 = .ok (.getstatic 63, 3) := by decide +kernel
theorem dJ2_getChar_3b067_56 : decode cJ2_getChar_3b067 56 = .ok (.ishl, 1) := by decide +kernel
theorem dJ2_getChar_3b067_57 : decode cJ2_getChar_3b067 57 = .ok (.ior, 1) := by decide +kernel
theorem dJ2_getChar_3b067_58 : decode cJ2_getChar_3b067 58 = .ok (.i2c, 1) := by decide +kernel
theorem dJ2_getChar_3b067_59 : decode cJ2_getChar_3b067 59 = .ok (.ireturn, 1) := by decide +kernel
theorem dJ2_length_9d52b_0 : decode cJ2_length_9d52b 0 = .ok (.aload_n 0, 1) := by decide +kernel
theorem dJ2_length_9d52b_1 : decode cJ2_length_9d52b 1 = .ok (.arraylength, 1) := by decide +kernel
theorem dJ2_length_9d52b_2 : decode cJ2_length_9d52b 2 = .ok (.iconst 1, 1) := by decide +kernel
theorem dJ2_length_9d52b_3 : decode cJ2_length_9d52b 3 = .ok (.ishr, 1) := by decide +kernel
theorem dJ2_length_9d52b_4 : decode cJ2_length_9d52b 4 = .ok (.ireturn, 1) := by decide +kernel
set_option maxRecDepth 20000 in
theorem ggJ2_indexOf_4cfef_J2_indexOfChar_4cfef : GoodIn wsJ2_indexOf_4cfef wsJ2_indexOfChar_4cfef := goodIn_r _ [12, 13, 14, 11, 15, 16, 17, 18, 19, 20, 21, 22, 23, 24, 25, 26, 27, 28, 29, 30, 31, 32, 33, 34, 35, 36] (by decide +kernel) (by decide +kernel)
set_option maxRecDepth 20000 in
theorem gJ2_indexOf_4cfef_J2_indexOfChar_4cfef : GoodIn wsJ2_indexOf_4cfef (va_wsS RJ2 228 yJ2_indexOfChar_4cfef wsJ2_indexOfChar_4cfef) := goodIn_app (goodIn_of _ (by decide +kernel)) ggJ2_indexOf_4cfef_J2_indexOfChar_4cfef
set_option maxRecDepth 20000 in
theorem ggJ2_indexOf_4cfef_J2_indexOfSupplementary_4cfef : GoodIn wsJ2_indexOf_4cfef wsJ2_indexOfSupplementary_4cfef := goodIn_r _ [39, 40, 41, 42, 43, 44, 45, 46, 47, 48, 49, 50, 51, 13, 14, 11, 15, 16, 17, 18, 19, 20, 21, 22, 23, 24, 25, 26, 27, 31, 32, 33, 34, 35, 36] (by decide +kernel) (by decide +kernel)
set_option maxRecDepth 20000 in
theorem gJ2_indexOf_4cfef_J2_indexOfSupplementary_4cfef : GoodIn wsJ2_indexOf_4cfef (va_wsS RJ2 232 yJ2_indexOfSupplementary_4cfef wsJ2_indexOfSupplementary_4cfef) := goodIn_app (goodIn_of _ (by decide +kernel)) ggJ2_indexOf_4cfef_J2_indexOfSupplementary_4cfef
theorem dJ2_indexOf_4cfef_0 : decode cJ2_indexOf_4cfef 0 = .ok (.iload_n 2, 1) := by decide +kernel
theorem dJ2_indexOf_4cfef_1 : decode cJ2_indexOf_4cfef 1 = .ok (.iconst 0, 1) := by decide +kernel
theorem dJ2_indexOf_4cfef_2 : decode cJ2_indexOf_4cfef 2 = .ok (.invokestatic 224, 3) := by decide +kernel
theorem dJ2_indexOf_4cfef_5 : decode cJ2_indexOf_4cfef 5 = .ok (.istore_n 2, 1) := by decide +kernel
theorem dJ2_indexOf_4cfef_6 : decode cJ2_indexOf_4cfef 6 = .ok (.iload_n 3, 1) := by decide +kernel
theorem dJ2_indexOf_4cfef_7 : decode cJ2_indexOf_4cfef 7 = .ok (.aload_n 0, 1) := by decide +kernel
theorem dJ2_indexOf_4cfef_8 : decode cJ2_indexOf_4cfef 8 = .ok (.arraylength, 1) := by decide +kernel
theorem dJ2_indexOf_4cfef_9 : decode cJ2_indexOf_4cfef 9 = .ok (.iconst 1, 1) := by decide +kernel
theorem dJ2_indexOf_4cfef_10 : decode cJ2_indexOf_4cfef 10 = .ok (.ishr, 1) := by decide +kernel
theorem dJ2_indexOf_4cfef_11 : decode cJ2_indexOf_4cfef 11 = .ok (.invokestatic 183, 3) := by decide +kernel
theorem dJ2_indexOf_4cfef_14 : decode cJ2_indexOf_4cfef 14 = .ok (.istore_n 3, 1) := by decide +kernel
theorem dJ2_indexOf_4cfef_15 : decode cJ2_indexOf_4cfef 15 = .ok (.iload_n 2, 1) := by decide +kernel
theorem dJ2_indexOf_4cfef_16 : decode cJ2_indexOf_4cfef 16 = .ok (.iload_n 3, 1) := by decide +kernel
theorem dJ2_indexOf_4cfef_17 : decode cJ2_indexOf_4cfef 17 = .ok (.if_icmp .lt 5, 3) := by decide +kernel
theorem dJ2_indexOf_4cfef_20 : decode cJ2_indexOf_4cfef 20 = .ok (.iconst (-1), 1) := by decide +kernel
theorem dJ2_indexOf_4cfef_21 : decode cJ2_indexOf_4cfef 21 = .ok (.ireturn, 1) := by decide +kernel
theorem dJ2_indexOf_4cfef_22 : decode cJ2_indexOf_4cfef 22 = .ok (.iload_n 1, 1) := by decide +kernel
theorem dJ2_indexOf_4cfef_23 : decode cJ2_indexOf_4cfef 23 = .ok (.ldc 227, 2) := by decide +kernel
theorem dJ2_indexOf_4cfef_25 : decode cJ2_indexOf_4cfef 25 = .ok (.if_icmp .ge 11, 3) := by decide +kernel
theorem dJ2_indexOf_4cfef_28 : decode cJ2_indexOf_4cfef 28 = .ok (.aload_n 0, 1) := by decide +kernel
theorem dJ2_indexOf_4cfef_29 : decode cJ2_indexOf_4cfef 29 = .ok (.iload_n 1, 1) := by decide +kernel
theorem dJ2_indexOf_4cfef_30 : decode cJ2_indexOf_4cfef 30 = .ok (.iload_n 2, 1) := by decide +kernel
theorem dJ2_indexOf_4cfef_31 : decode cJ2_indexOf_4cfef 31 = .ok (.iload_n 3, 1) := by decide +kernel
theorem dJ2_indexOf_4cfef_32 : decode cJ2_indexOf_4cfef 32 = .ok (.invokestatic 228, 3) := by decide +kernel
theorem dJ2_indexOf_4cfef_35 : decode cJ2_indexOf_4cfef 35 = .ok (.ireturn, 1) := by decide +kernel
theorem dJ2_indexOf_4cfef_36 : decode cJ2_indexOf_4cfef 36 = .ok (.aload_n 0, 1) := by decide +kernel
theorem dJ2_indexOf_4cfef_37 : decode cJ2_indexOf_4cfef 37 = .ok (.iload_n 1, 1) := by decide +kernel
theorem dJ2_indexOf_4cfef_38 : decode cJ2_indexOf_4cfef 38 = .ok (.iload_n 2, 1) := by decide +kernel
theorem dJ2_indexOf_4cfef_39 : decode cJ2_indexOf_4cfef 39 = .ok (.iload_n 3, 1) := by decide +kernel
theorem dJ2_indexOf_4cfef_40 : decode cJ2_indexOf_4cfef 40 = .ok (.invokestatic 232, 3) := by decide +kernel
theorem dJ2_indexOf_4cfef_43 : decode cJ2_indexOf_4cfef 43 = .ok (.ireturn, 1) := by decide +kernel
set_option maxRecDepth 20000 in
theorem ggJ2_indexOfChar_4cfef_J2_checkBoundsBeginEnd_d044e : GoodIn wsJ2_indexOfChar_4cfef wsJ2_checkBoundsBeginEnd_d044e := goodIn_r _ [4, 5, 6, 3, 7, 8, 9, 10, 11, 12, 13, 14, 15, 16] (by decide +kernel) (by decide +kernel)
set_option maxRecDepth 20000 in
theorem gJ2_indexOfChar_4cfef_J2_checkBoundsBeginEnd_d044e : GoodIn wsJ2_indexOfChar_4cfef (va_wsS RJ2 96 yJ2_checkBoundsBeginEnd_d044e wsJ2_checkBoundsBeginEnd_d044e) := goodIn_app (goodIn_of _ (by decide +kernel)) ggJ2_indexOfChar_4cfef_J2_checkBoundsBeginEnd_d044e
set_option maxRecDepth 20000 in
theorem ggJ2_indexOfChar_4cfef_J2_indexOfCharUnsafe_4cfef : GoodIn wsJ2_indexOfChar_4cfef wsJ2_indexOfCharUnsafe_4cfef := goodIn_r _ [19, 20, 21, 3, 22, 23, 24, 25, 5, 6, 7] (by decide +kernel) (by decide +kernel)
set_option maxRecDepth 20000 in
theorem gJ2_indexOfChar_4cfef_J2_indexOfCharUnsafe_4cfef : GoodIn wsJ2_indexOfChar_4cfef (va_wsS RJ2 244 yJ2_indexOfCharUnsafe_4cfef wsJ2_indexOfCharUnsafe_4cfef) := goodIn_app (goodIn_of _ (by decide +kernel)) ggJ2_indexOfChar_4cfef_J2_indexOfCharUnsafe_4cfef
theorem dJ2_indexOfChar_4cfef_0 : decode cJ2_indexOfChar_4cfef 0 = .ok (.iload_n 2, 1) := by decide +kernel
theorem dJ2_indexOfChar_4cfef_1 : decode cJ2_indexOfChar_4cfef 1 = .ok (.iload_n 3, 1) := by decide +kernel
theorem dJ2_indexOfChar_4cfef_2 : decode cJ2_indexOfChar_4cfef 2 = .ok (.aload_n 0, 1) := by decide +kernel
theorem dJ2_indexOfChar_4cfef_3 : decode cJ2_indexOfChar_4cfef 3 = .ok (.invokestatic 96, 3) := by decide +kernel
theorem dJ2_indexOfChar_4cfef_6 : decode cJ2_indexOfChar_4cfef 6 = .ok (.aload_n 0, 1) := by decide +kernel
theorem dJ2_indexOfChar_4cfef_7 : decode cJ2_indexOfChar_4cfef 7 = .ok (.iload_n 1, 1) := by decide +kernel
theorem dJ2_indexOfChar_4cfef_8 : decode cJ2_indexOfChar_4cfef 8 = .ok (.iload_n 2, 1) := by decide +kernel
theorem dJ2_indexOfChar_4cfef_9 : decode cJ2_indexOfChar_4cfef 9 = .ok (.iload_n 3, 1) := by decide +kernel
theorem dJ2_indexOfChar_4cfef_10 : decode cJ2_indexOfChar_4cfef 10 = .ok (.invokestatic 244, 3) := by decide +kernel
theorem dJ2_indexOfChar_4cfef_13 : decode cJ2_indexOfChar_4cfef 13 = .ok (.ireturn, 1) := by decide +kernel
set_option maxRecDepth 20000 in
theorem ggJ2_indexOfCharUnsafe_4cfef_J2_getChar_3b067 : GoodIn wsJ2_indexOfCharUnsafe_4cfef wsJ2_getChar_3b067 := goodIn_r _ [4, 5, 6, 7, 8, 9, 3, 10] (by decide +kernel) (by decide +kernel)
set_option maxRecDepth 20000 in
theorem gJ2_indexOfCharUnsafe_4cfef_J2_getChar_3b067 : GoodIn wsJ2_indexOfCharUnsafe_4cfef (va_wsS RJ2 71 yJ2_getChar_3b067 wsJ2_getChar_3b067) := goodIn_app (goodIn_of _ (by decide +kernel)) ggJ2_indexOfCharUnsafe_4cfef_J2_getChar_3b067
theorem dJ2_indexOfCharUnsafe_4cfef_0 : decode cJ2_indexOfCharUnsafe_4cfef 0 = .ok (.iload_n 2, 1) := by decide +kernel
theorem dJ2_indexOfCharUnsafe_4cfef_1 : decode cJ2_indexOfCharUnsafe_4cfef 1 = .ok (.istore 4, 2) := by decide +kernel
theorem dJ2_indexOfCharUnsafe_4cfef_3 : decode cJ2_indexOfCharUnsafe_4cfef 3 = .ok (.iload 4, 2) := by decide +kernel
theorem dJ2_indexOfCharUnsafe_4cfef_5 : decode cJ2_indexOfCharUnsafe_4cfef 5 = .ok (.iload_n 3, 1) := by decide +kernel
theorem dJ2_indexOfCharUnsafe_4cfef_6 : decode cJ2_indexOfCharUnsafe_4cfef 6 = .ok (.if_icmp .ge 22, 3) := by decide +kernel
theorem dJ2_indexOfCharUnsafe_4cfef_9 : decode cJ2_indexOfCharUnsafe_4cfef 9 = .ok (.aload_n 0, 1) := by decide +kernel
theorem dJ2_indexOfCharUnsafe_4cfef_10 : decode cJ2_indexOfCharUnsafe_4cfef 10 = .ok (.iload 4, 2) := by decide +kernel
theorem dJ2_indexOfCharUnsafe_4cfef_12 : decode cJ2_indexOfCharUnsafe_4cfef 12 = .ok (.invokestatic 71, 3) := by decide +kernel
theorem dJ2_indexOfCharUnsafe_4cfef_15 : decode cJ2_indexOfCharUnsafe_4cfef 15 = .ok (.iload_n 1, 1) := by decide +kernel
theorem dJ2_indexOfCharUnsafe_4cfef_16 : decode cJ2_indexOfCharUnsafe_4cfef 16 = .ok (.if_icmp .ne 6, 3) := by decide +kernel
theorem dJ2_indexOfCharUnsafe_4cfef_19 : decode cJ2_indexOfCharUnsafe_4cfef 19 = .ok (.iload 4, 2) := by decide +kernel
theorem dJ2_indexOfCharUnsafe_4cfef_21 : decode cJ2_indexOfCharUnsafe_4cfef 21 = .ok (.ireturn, 1) := by decide +kernel
theorem dJ2_indexOfCharUnsafe_4cfef_22 : decode cJ2_indexOfCharUnsafe_4cfef 22 = .ok (.iinc 4 1, 3) := by decide +kernel
theorem dJ2_indexOfCharUnsafe_4cfef_25 : decode cJ2_indexOfCharUnsafe_4cfef 25 = .ok (.goto (-22), 3) := by decide +kernel
theorem dJ2_indexOfCharUnsafe_4cfef_28 : decode cJ2_indexOfCharUnsafe_4cfef 28 = .ok (.iconst (-1), 1) := by decide +kernel
theorem dJ2_indexOfCharUnsafe_4cfef_29 : decode cJ2_indexOfCharUnsafe_4cfef 29 = .ok (.ireturn, 1) := by decide +kernel
set_option maxRecDepth 20000 in
theorem ggJ2_indexOfSupplementary_4cfef_J11_isValidCodePoint_9a6ad : GoodIn wsJ2_indexOfSupplementary_4cfef wsJ11_isValidCodePoint_9a6ad := goodIn_r _ [4] (by decide +kernel) (by decide +kernel)
set_option maxRecDepth 20000 in
theorem gJ2_indexOfSupplementary_4cfef_J11_isValidCodePoint_9a6ad : GoodIn wsJ2_indexOfSupplementary_4cfef (va_wsS RJ2 164 yJ11_isValidCodePoint_9a6ad wsJ11_isValidCodePoint_9a6ad) := goodIn_app (goodIn_of _ (by decide +kernel)) ggJ2_indexOfSupplementary_4cfef_J11_isValidCodePoint_9a6ad
set_option maxRecDepth 20000 in
theorem ggJ2_indexOfSupplementary_4cfef_J11_highSurrogate_5068e : GoodIn wsJ2_indexOfSupplementary_4cfef wsJ11_highSurrogate_5068e := goodIn_r _ [7, 8] (by decide +kernel) (by decide +kernel)
set_option maxRecDepth 20000 in
theorem gJ2_indexOfSupplementary_4cfef_J11_highSurrogate_5068e : GoodIn wsJ2_indexOfSupplementary_4cfef (va_wsS RJ2 157 yJ11_highSurrogate_5068e wsJ11_highSurrogate_5068e) := goodIn_app (goodIn_of _ (by decide +kernel)) ggJ2_indexOfSupplementary_4cfef_J11_highSurrogate_5068e
set_option maxRecDepth 20000 in
theorem ggJ2_indexOfSupplementary_4cfef_J11_lowSurrogate_5068e : GoodIn wsJ2_indexOfSupplementary_4cfef wsJ11_lowSurrogate_5068e := goodIn_r _ [11, 12] (by decide +kernel) (by decide +kernel)
set_option maxRecDepth 20000 in
theorem gJ2_indexOfSupplementary_4cfef_J11_lowSurrogate_5068e : GoodIn wsJ2_indexOfSupplementary_4cfef (va_wsS RJ2 161 yJ11_lowSurrogate_5068e wsJ11_lowSurrogate_5068e) := goodIn_app (goodIn_of _ (by decide +kernel)) ggJ2_indexOfSupplementary_4cfef_J11_lowSurrogate_5068e
set_option maxRecDepth 20000 in
theorem ggJ2_indexOfSupplementary_4cfef_J2_checkBoundsBeginEnd_d044e : GoodIn wsJ2_indexOfSupplementary_4cfef wsJ2_checkBoundsBeginEnd_d044e := goodIn_r _ [16, 17, 18, 15, 19, 20, 21, 22, 23, 24, 25, 26, 27, 28] (by decide +kernel) (by decide +kernel)
set_option maxRecDepth 20000 in
theorem gJ2_indexOfSupplementary_4cfef_J2_checkBoundsBeginEnd_d044e : GoodIn wsJ2_indexOfSupplementary_4cfef (va_wsS RJ2 96 yJ2_checkBoundsBeginEnd_d044e wsJ2_checkBoundsBeginEnd_d044e) := goodIn_app (goodIn_of _ (by decide +kernel)) ggJ2_indexOfSupplementary_4cfef_J2_checkBoundsBeginEnd_d044e
set_option maxRecDepth 20000 in
theorem ggJ2_indexOfSupplementary_4cfef_J2_getChar_3b067 : GoodIn wsJ2_indexOfSupplementary_4cfef wsJ2_getChar_3b067 := goodIn_r _ [31, 32, 33, 34, 17, 18, 15, 19] (by decide +kernel) (by decide +kernel)
set_option maxRecDepth 20000 in
theorem gJ2_indexOfSupplementary_4cfef_J2_getChar_3b067 : GoodIn wsJ2_indexOfSupplementary_4cfef (va_wsS RJ2 71 yJ2_getChar_3b067 wsJ2_getChar_3b067) := goodIn_app (goodIn_of _ (by decide +kernel)) ggJ2_indexOfSupplementary_4cfef_J2_getChar_3b067
theorem dJ2_indexOfSupplementary_4cfef_0 : decode cJ2_indexOfSupplementary_4cfef 0 = .ok (.iload_n 1, 1) := by decide +kernel
theorem dJ2_indexOfSupplementary_4cfef_1 : decode cJ2_indexOfSupplementary_4cfef 1 = .ok (.invokestatic 164, 3) := by decide +kernel
theorem dJ2_indexOfSupplementary_4cfef_4 : decode cJ2_indexOfSupplementary_4cfef 4 = .ok (.ifCond .eq 65, 3) := by decide +kernel
theorem dJ2_indexOfSupplementary_4cfef_7 : decode cJ2_indexOfSupplementary_4cfef 7 = .ok (.iload_n 1, 1) := by decide +kernel
theorem dJ2_indexOfSupplementary_4cfef_8 : decode cJ2_indexOfSupplementary_4cfef 8 = .ok (.invokestatic 157, 3) := by decide +kernel
theorem dJ2_indexOfSupplementary_4cfef_11 : decode cJ2_indexOfSupplementary_4cfef 11 = .ok (.istore 4, 2) := by decide +kernel
theorem dJ2_indexOfSupplementary_4cfef_13 : decode cJ2_indexOfSupplementary_4cfef 13 = .ok (.iload_n 1, 1) := by decide +kernel
theorem dJ2_indexOfSupplementary_4cfef_14 : decode cJ2_indexOfSupplementary_4cfef 14 = .ok (.invokestatic 161, 3) := by decide +kernel
theorem dJ2_indexOfSupplementary_4cfef_17 : decode cJ2_indexOfSupplementary_4cfef 17 = .ok (.istore 5, 2) := by decide +kernel
theorem dJ2_indexOfSupplementary_4cfef_19 : decode cJ2_indexOfSupplementary_4cfef 19 = .ok (.iload_n 2, 1) := by decide +kernel
theorem dJ2_indexOfSupplementary_4cfef_20 : decode cJ2_indexOfSupplementary_4cfef 20 = .ok (.iload_n 3, 1) := by decide +kernel
theorem dJ2_indexOfSupplementary_4cfef_21 : decode cJ2_indexOfSupplementary_4cfef 21 = .ok (.aload_n 0, 1) := by decide +kernel
theorem dJ2_indexOfSupplementary_4cfef_22 : decode cJ2_indexOfSupplementary_4cfef 22 = .ok (.invokestatic 96, 3) := by decide +kernel
theorem dJ2_indexOfSupplementary_4cfef_25 : decode cJ2_indexOfSupplementary_4cfef 25 = .ok (.iload_n 2, 1) := by decide +kernel
theorem dJ2_indexOfSupplementary_4cfef_26 : decode cJ2_indexOfSupplementary_4cfef 26 = .ok (.istore 6, 2) := by decide +kernel
theorem dJ2_indexOfSupplementary_4cfef_28 : decode cJ2_indexOfSupplementary_4cfef 28 = .ok (.iload 6, 2) := by decide +kernel
theorem dJ2_indexOfSupplementary_4cfef_30 : decode cJ2_indexOfSupplementary_4cfef 30 = .ok (.iload_n 3, 1) := by decide +kernel
theorem dJ2_indexOfSupplementary_4cfef_31 : decode cJ2_indexOfSupplementary_4cfef 31 = .ok (.iconst 1, 1) := by decide +kernel
theorem dJ2_indexOfSupplementary_4cfef_32 : decode cJ2_indexOfSupplementary_4cfef 32 = .ok (.isub, 1) := by decide +kernel
theorem dJ2_indexOfSupplementary_4cfef_33 : decode cJ2_indexOfSupplementary_4cfef 33 = .ok (.if_icmp .ge 36, 3) := by decide +kernel
theorem dJ2_indexOfSupplementary_4cfef_36 : decode cJ2_indexOfSupplementary_4cfef 36 = .ok (.aload_n 0, 1) := by decide +kernel
theorem dJ2_indexOfSupplementary_4cfef_37 : decode cJ2_indexOfSupplementary_4cfef 37 = .ok (.iload 6, 2) := by decide +kernel
theorem dJ2_indexOfSupplementary_4cfef_39 : decode cJ2_indexOfSupplementary_4cfef 39 = .ok (.invokestatic 71, 3) := by decide +kernel
theorem dJ2_indexOfSupplementary_4cfef_42 : decode cJ2_indexOfSupplementary_4cfef 42 = .ok (.iload 4, 2) := by decide +kernel
theorem dJ2_indexOfSupplementary_4cfef_44 : decode cJ2_indexOfSupplementary_4cfef 44 = .ok (.if_icmp .ne 19, 3) := by decide +kernel
theorem dJ2_indexOfSupplementary_4cfef_47 : decode cJ2_indexOfSupplementary_4cfef 47 = .ok (.aload_n 0, 1) := by decide +kernel
theorem dJ2_indexOfSupplementary_4cfef_48 : decode cJ2_indexOfSupplementary_4cfef 48 = .ok (.iload 6, 2) := by decide +kernel
theorem dJ2_indexOfSupplementary_4cfef_50 : decode cJ2_indexOfSupplementary_4cfef 50 = .ok (.iconst 1, 1) := by decide +kernel
theorem dJ2_indexOfSupplementary_4cfef_51 : decode cJ2_indexOfSupplementary_4cfef 51 = .ok (.iadd, 1) := by decide +kernel
theorem dJ2_indexOfSupplementary_4cfef_52 : decode cJ2_indexOfSupplementary_4cfef 52 = .ok (.invokestatic 71, 3) := by decide +kernel
theorem dJ2_indexOfSupplementary_4cfef_55 : decode cJ2_indexOfSupplementary_4cfef 55 = .ok (.iload 5, 2) := by decide +kernel
theorem dJ2_indexOfSupplementary_4cfef_57 : decode cJ2_indexOfSupplementary_4cfef 57 = .ok (.if_icmp .ne 6, 3) := by decide +kernel
theorem dJ2_indexOfSupplementary_4cfef_60 : decode cJ2_indexOfSupplementary_4cfef 60 = .ok (.iload 6, 2) := by decide +kernel
theorem dJ2_indexOfSupplementary_4cfef_62 : decode cJ2_indexOfSupplementary_4cfef 62 = .ok (.ireturn, 1) := by decide +kernel
theorem dJ2_indexOfSupplementary_4cfef_63 : decode cJ2_indexOfSupplementary_4cfef 63 = .ok (.iinc 6 1, 3) := by decide +kernel
theorem dJ2_indexOfSupplementary_4cfef_66 : decode cJ2_indexOfSupplementary_4cfef 66 = .ok (.goto (-38), 3) := by decide +kernel
theorem dJ2_indexOfSupplementary_4cfef_69 : decode cJ2_indexOfSupplementary_4cfef 69 = .ok (.iconst (-1), 1) := by decide +kernel
theorem dJ2_indexOfSupplementary_4cfef_70 : decode cJ2_indexOfSupplementary_4cfef 70 = .ok (.ireturn, 1) := by decide +kernel
set_option maxRecDepth 20000 in
theorem ggJ2_checkBoundsBeginEnd_d044e_J2_length_9d52b : GoodIn wsJ2_checkBoundsBeginEnd_d044e wsJ2_length_9d52b := goodIn_r _ [4] (by decide +kernel) (by decide +kernel)
set_option maxRecDepth 20000 in
theorem gJ2_checkBoundsBeginEnd_d044e_J2_length_9d52b : GoodIn wsJ2_checkBoundsBeginEnd_d044e (va_wsS RJ2 48 yJ2_length_9d52b wsJ2_length_9d52b) := goodIn_app (goodIn_of _ (by decide +kernel)) ggJ2_checkBoundsBeginEnd_d044e_J2_length_9d52b
set_option maxRecDepth 20000 in
theorem ggJ2_checkBoundsBeginEnd_d044e_J0_checkBoundsBeginEnd_23922 : GoodIn wsJ2_checkBoundsBeginEnd_d044e wsJ0_checkBoundsBeginEnd_23922 := goodIn_r _ [8, 9, 10, 11, 12, 13] (by decide +kernel) (by decide +kernel)
set_option maxRecDepth 20000 in
theorem gJ2_checkBoundsBeginEnd_d044e_J0_checkBoundsBeginEnd_23922 : GoodIn wsJ2_checkBoundsBeginEnd_d044e (va_wsS RJ2 241 yJ0_checkBoundsBeginEnd_23922 wsJ0_checkBoundsBeginEnd_23922) := goodIn_app (goodIn_of _ (by decide +kernel)) ggJ2_checkBoundsBeginEnd_d044e_J0_checkBoundsBeginEnd_23922
theorem dJ2_checkBoundsBeginEnd_d044e_0 : decode cJ2_checkBoundsBeginEnd_d044e 0 = .ok (.iload_n 0, 1) := by decide +kernel
theorem dJ2_checkBoundsBeginEnd_d044e_1 : decode cJ2_checkBoundsBeginEnd_d044e 1 = .ok (.iload_n 1, 1) := by decide +kernel
theorem dJ2_checkBoundsBeginEnd_d044e_2 : decode cJ2_checkBoundsBeginEnd_d044e 2 = .ok (.aload_n 2, 1) := by decide +kernel
theorem dJ2_checkBoundsBeginEnd_d044e_3 : decode cJ2_checkBoundsBeginEnd_d044e 3 = .ok (.invokestatic 48, 3) := by decide +kernel
theorem dJ2_checkBoundsBeginEnd_d044e_6 : decode cJ2_checkBoundsBeginEnd_d044e 6 = .ok (.invokestatic 241, 3) := by decide +kernel
theorem dJ2_checkBoundsBeginEnd_d044e_9 : decode cJ2_checkBoundsBeginEnd_d044e 9 = .ok (.return_, 1) := by decide +kernel
theorem dJ7_fill_d0a16_0 : decode cJ7_fill_d0a16 0 = .ok (.iconst 0, 1) := by decide +kernel
theorem dJ7_fill_d0a16_1 : decode cJ7_fill_d0a16 1 = .ok (.istore_n 3, 1) := by decide +kernel
theorem dJ7_fill_d0a16_2 : decode cJ7_fill_d0a16 2 = .ok (.aload_n 0, 1) := by decide +kernel
theorem dJ7_fill_d0a16_3 : decode cJ7_fill_d0a16 3 = .ok (.arraylength, 1) := by decide +kernel
theorem dJ7_fill_d0a16_4 : decode cJ7_fill_d0a16 4 = .ok (.istore 4, 2) := by decide +kernel
theorem dJ7_fill_d0a16_6 : decode cJ7_fill_d0a16 6 = .ok (.iload_n 3, 1) := by decide +kernel
theorem dJ7_fill_d0a16_7 : decode cJ7_fill_d0a16 7 = .ok (.iload 4, 2) := by decide +kernel
theorem dJ7_fill_d0a16_9 : decode cJ7_fill_d0a16 9 = .ok (.if_icmp .ge 13, 3) := by decide +kernel
theorem dJ7_fill_d0a16_12 : decode cJ7_fill_d0a16 12 = .ok (.aload_n 0, 1) := by decide +kernel
theorem dJ7_fill_d0a16_13 : decode cJ7_fill_d0a16 13 = .ok (.iload_n 3, 1) := by decide +kernel
theorem dJ7_fill_d0a16_14 : decode cJ7_fill_d0a16 14 = .ok (.lload_n 1, 1) := by decide +kernel
theorem dJ7_fill_d0a16_15 : decode cJ7_fill_d0a16 15 = .ok (.lastore, 1) := by decide +kernel
theorem dJ7_fill_d0a16_16 : decode cJ7_fill_d0a16 16 = .ok (.iinc 3 1, 3) := by decide +kernel
theorem dJ7_fill_d0a16_19 : decode cJ7_fill_d0a16 19 = .ok (.goto (-13), 3) := by decide +kernel
theorem dJ7_fill_d0a16_22 : decode cJ7_fill_d0a16 22 = .ok (.return_, 1) := by decide +kernel
theorem dJ7_fill_53178_0 : decode cJ7_fill_53178 0 = .ok (.iconst 0, 1) := by decide +kernel
theorem dJ7_fill_53178_1 : decode cJ7_fill_53178 1 = .ok (.istore_n 2, 1) := by decide +kernel
theorem dJ7_fill_53178_2 : decode cJ7_fill_53178 2 = .ok (.aload_n 0, 1) := by decide +kernel
theorem dJ7_fill_53178_3 : decode cJ7_fill_53178 3 = .ok (.arraylength, 1) := by decide +kernel
theorem dJ7_fill_53178_4 : decode cJ7_fill_53178 4 = .ok (.istore_n 3, 1) := by decide +kernel
theorem dJ7_fill_53178_5 : decode cJ7_fill_53178 5 = .ok (.iload_n 2, 1) := by decide +kernel
theorem dJ7_fill_53178_6 : decode cJ7_fill_53178 6 = .ok (.iload_n 3, 1) := by decide +kernel
theorem dJ7_fill_53178_7 : decode cJ7_fill_53178 7 = .ok (.if_icmp .ge 13, 3) := by decide +kernel
theorem dJ7_fill_53178_10 : decode cJ7_fill_53178 10 = .ok (.aload_n 0, 1) := by decide +kernel
theorem dJ7_fill_53178_11 : decode cJ7_fill_53178 11 = .ok (.iload_n 2, 1) := by decide +kernel
theorem dJ7_fill_53178_12 : decode cJ7_fill_53178 12 = .ok (.iload_n 1, 1) := by decide +kernel
theorem dJ7_fill_53178_13 : decode cJ7_fill_53178 13 = .ok (.iastore, 1) := by decide +kernel
theorem dJ7_fill_53178_14 : decode cJ7_fill_53178 14 = .ok (.iinc 2 1, 3) := by decide +kernel
theorem dJ7_fill_53178_17 : decode cJ7_fill_53178 17 = .ok (.goto (-12), 3) := by decide +kernel
theorem dJ7_fill_53178_20 : decode cJ7_fill_53178 20 = .ok (.return_, 1) := by decide +kernel
theorem dJ3_checkFromToIndex_8c36e_0 : decode cJ3_checkFromToIndex_8c36e 0 = .ok (.iload_n 0, 1) := by decide +kernel
theorem dJ3_checkFromToIndex_8c36e_1 : decode cJ3_checkFromToIndex_8c36e 1 = .ok (.ifCond .lt 13, 3) := by decide +kernel
theorem dJ3_checkFromToIndex_8c36e_4 : decode cJ3_checkFromToIndex_8c36e 4 = .ok (.iload_n 0, 1) := by decide +kernel
theorem dJ3_checkFromToIndex_8c36e_5 : decode cJ3_checkFromToIndex_8c36e 5 = .ok (.iload_n 1, 1) := by decide +kernel
theorem dJ3_checkFromToIndex_8c36e_6 : decode cJ3_checkFromToIndex_8c36e 6 = .ok (.if_icmp .gt 8, 3) := by decide +kernel
theorem dJ3_checkFromToIndex_8c36e_9 : decode cJ3_checkFromToIndex_8c36e 9 = .ok (.iload_n 1, 1) := by decide +kernel
theorem dJ3_checkFromToIndex_8c36e_10 : decode cJ3_checkFromToIndex_8c36e 10 = .ok (.iload_n 2, 1) := by decide +kernel
theorem dJ3_checkFromToIndex_8c36e_11 : decode cJ3_checkFromToIndex_8c36e 11 = .ok (.if_icmp .le 11, 3) := by decide +kernel
theorem dJ3_checkFromToIndex_8c36e_14 : decode cJ3_checkFromToIndex_8c36e 14 = .ok (.aload_n 3, 1) := by decide +kernel
theorem dJ3_checkFromToIndex_8c36e_15 : decode cJ3_checkFromToIndex_8c36e 15 = .ok (.iload_n 0, 1) := by decide +kernel
theorem dJ3_checkFromToIndex_8c36e_16 : decode cJ3_checkFromToIndex_8c36e 16 = .ok (.iload_n 1, 1) := by decide +kernel
theorem dJ3_checkFromToIndex_8c36e_17 : decode cJ3_checkFromToIndex_8c36e 17 = .ok (.iload_n 2, 1) := by decide +kernel
theorem dJ3_checkFromToIndex_8c36e_18 : decode cJ3_checkFromToIndex_8c36e 18 = .ok (.invokestatic 99, 3) := by decide +kernel
theorem dJ3_checkFromToIndex_8c36e_21 : decode cJ3_checkFromToIndex_8c36e 21 = .ok (.athrow, 1) := by decide +kernel
theorem dJ3_checkFromToIndex_8c36e_22 : decode cJ3_checkFromToIndex_8c36e 22 = .ok (.iload_n 0, 1) := by decide +kernel
theorem dJ3_checkFromToIndex_8c36e_23 : decode cJ3_checkFromToIndex_8c36e 23 = .ok (.ireturn, 1) := by decide +kernel
theorem dL_cell_0 : decode cL_cell 0 = .ok (.iload_n 1, 1) := by decide +kernel
theorem dL_cell_1 : decode cL_cell 1 = .ok (.aload_n 0, 1) := by decide +kernel
theorem dL_cell_2 : decode cL_cell 2 = .ok (.arraylength, 1) := by decide +kernel
theorem dL_cell_3 : decode cL_cell 3 = .ok (.if_icmp .ge 9, 3) := by decide +kernel
theorem dL_cell_6 : decode cL_cell 6 = .ok (.aload_n 0, 1) := by decide +kernel
theorem dL_cell_7 : decode cL_cell 7 = .ok (.iload_n 1, 1) := by decide +kernel
theorem dL_cell_8 : decode cL_cell 8 = .ok (.iaload, 1) := by decide +kernel
theorem dL_cell_9 : decode cL_cell 9 = .ok (.goto 9, 3) := by decide +kernel
theorem dL_cell_12 : decode cL_cell 12 = .ok (.ldc 7, 2) := by decide +kernel
theorem dL_cell_14 : decode cL_cell 14 = .ok (.iload_n 1, 1) := by decide +kernel
theorem dL_cell_15 : decode cL_cell 15 = .ok (.iconst 1, 1) := by decide +kernel
theorem dL_cell_16 : decode cL_cell 16 = .ok (.iadd, 1) := by decide +kernel
theorem dL_cell_17 : decode cL_cell 17 = .ok (.imul, 1) := by decide +kernel
theorem dL_cell_18 : decode cL_cell 18 = .ok (.ireturn, 1) := by decide +kernel
theorem dL_some_0 : decode cL_some 0 = .ok (.iload_n 0, 1) := by decide +kernel
theorem dL_some_1 : decode cL_some 1 = .ok (.ldc 8, 2) := by decide +kernel
theorem dL_some_3 : decode cL_some 3 = .ok (.iand, 1) := by decide +kernel
theorem dL_some_4 : decode cL_some 4 = .ok (.iload_n 1, 1) := by decide +kernel
theorem dL_some_5 : decode cL_some 5 = .ok (.irem, 1) := by decide +kernel
theorem dL_some_6 : decode cL_some 6 = .ok (.ireturn, 1) := by decide +kernel
set_option maxRecDepth 20000 in
theorem ggL_number_X10_write : GoodIn wsL_number wsX10_write := goodIn_r _ [5, 6, 7, 8, 4, 9, 10, 11, 12, 13, 14, 15, 16, 17, 18, 19, 20, 21, 22, 23, 24, 25, 26, 27, 28, 29, 30, 31] (by decide +kernel) (by decide +kernel)
set_option maxRecDepth 20000 in
theorem gL_number_X10_write : GoodIn wsL_number (wsV RL 9 RX10 yX10_write wsX10_write) := goodIn_app (goodIn_of _ (by decide +kernel)) ggL_number_X10_write
theorem dL_number_0 : decode cL_number 0 = .ok (.iconst 1, 1) := by decide +kernel
theorem dL_number_1 : decode cL_number 1 = .ok (.istore_n 3, 1) := by decide +kernel
theorem dL_number_2 : decode cL_number 2 = .ok (.bipush 100, 2) := by decide +kernel
theorem dL_number_4 : decode cL_number 4 = .ok (.istore 4, 2) := by decide +kernel
theorem dL_number_6 : decode cL_number 6 = .ok (.iload 4, 2) := by decide +kernel
theorem dL_number_8 : decode cL_number 8 = .ok (.ifCond .le 54, 3) := by decide +kernel
theorem dL_number_11 : decode cL_number 11 = .ok (.iload_n 3, 1) := by decide +kernel
theorem dL_number_12 : decode cL_number 12 = .ok (.ifCond .eq 38, 3) := by decide +kernel
theorem dL_number_15 : decode cL_number 15 = .ok (.iload_n 1, 1) := by decide +kernel
theorem dL_number_16 : decode cL_number 16 = .ok (.iload 4, 2) := by decide +kernel
theorem dL_number_18 : decode cL_number 18 = .ok (.if_icmp .ge 9, 3) := by decide +kernel
theorem dL_number_21 : decode cL_number 21 = .ok (.iload 4, 2) := by decide +kernel
theorem dL_number_23 : decode cL_number 23 = .ok (.iconst 1, 1) := by decide +kernel
theorem dL_number_24 : decode cL_number 24 = .ok (.if_icmp .gt 22, 3) := by decide +kernel
theorem dL_number_27 : decode cL_number 27 = .ok (.aload_n 0, 1) := by decide +kernel
theorem dL_number_28 : decode cL_number 28 = .ok (.iconst 1, 1) := by decide +kernel
theorem dL_number_29 : decode cL_number 29 = .ok (.bipush 48, 2) := by decide +kernel
theorem dL_number_31 : decode cL_number 31 = .ok (.iload_n 1, 1) := by decide +kernel
theorem dL_number_32 : decode cL_number 32 = .ok (.iload 4, 2) := by decide +kernel
theorem dL_number_34 : decode cL_number 34 = .ok (.idiv, 1) := by decide +kernel
theorem dL_number_35 : decode cL_number 35 = .ok (.bipush 10, 2) := by decide +kernel
theorem dL_number_37 : decode cL_number 37 = .ok (.irem, 1) := by decide +kernel
theorem dL_number_38 : decode cL_number 38 = .ok (.iadd, 1) := by decide +kernel
theorem dL_number_39 : decode cL_number 39 = .ok (.i2l, 1) := by decide +kernel
theorem dL_number_40 : decode cL_number 40 = .ok (.invokevirtual 9, 3) := by decide +kernel
theorem dL_number_43 : decode cL_number 43 = .ok (.ifCond .le 7, 3) := by decide +kernel
theorem dL_number_46 : decode cL_number 46 = .ok (.iconst 1, 1) := by decide +kernel
theorem dL_number_47 : decode cL_number 47 = .ok (.goto 4, 3) := by decide +kernel
theorem dL_number_50 : decode cL_number 50 = .ok (.iconst 0, 1) := by decide +kernel
theorem dL_number_51 : decode cL_number 51 = .ok (.istore_n 3, 1) := by decide +kernel
theorem dL_number_52 : decode cL_number 52 = .ok (.iload 4, 2) := by decide +kernel
theorem dL_number_54 : decode cL_number 54 = .ok (.bipush 10, 2) := by decide +kernel
theorem dL_number_56 : decode cL_number 56 = .ok (.idiv, 1) := by decide +kernel
theorem dL_number_57 : decode cL_number 57 = .ok (.istore 4, 2) := by decide +kernel
theorem dL_number_59 : decode cL_number 59 = .ok (.goto (-53), 3) := by decide +kernel
theorem dL_number_62 : decode cL_number 62 = .ok (.iload_n 3, 1) := by decide +kernel
theorem dL_number_63 : decode cL_number 63 = .ok (.ifCond .eq 17, 3) := by decide +kernel
theorem dL_number_66 : decode cL_number 66 = .ok (.aload_n 0, 1) := by decide +kernel
theorem dL_number_67 : decode cL_number 67 = .ok (.iconst 1, 1) := by decide +kernel
theorem dL_number_68 : decode cL_number 68 = .ok (.iload_n 2, 1) := by decide +kernel
theorem dL_number_69 : decode cL_number 69 = .ok (.i2l, 1) := by decide +kernel
theorem dL_number_70 : decode cL_number 70 = .ok (.invokevirtual 9, 3) := by decide +kernel
theorem dL_number_73 : decode cL_number 73 = .ok (.ifCond .le 7, 3) := by decide +kernel
theorem dL_number_76 : decode cL_number 76 = .ok (.iconst 1, 1) := by decide +kernel
theorem dL_number_77 : decode cL_number 77 = .ok (.goto 4, 3) := by decide +kernel
theorem dL_number_80 : decode cL_number 80 = .ok (.iconst 0, 1) := by decide +kernel
theorem dL_number_81 : decode cL_number 81 = .ok (.ireturn, 1) := by decide +kernel
set_option maxRecDepth 20000 in
theorem ggL_item_X10_write : GoodIn wsL_item wsX10_write := goodIn_r _ [5, 6, 7, 8, 4, 9, 10, 11, 12, 13, 14, 15, 16, 21, 22, 23, 24, 25, 26, 27, 28, 29, 30, 31, 32, 33, 34, 35] (by decide +kernel) (by decide +kernel)
set_option maxRecDepth 20000 in
theorem gL_item_X10_write : GoodIn wsL_item (wsV RL 9 RX10 yX10_write wsX10_write) := goodIn_app (goodIn_of _ (by decide +kernel)) ggL_item_X10_write
set_option maxRecDepth 20000 in
theorem ggL_item_L_number : GoodIn wsL_item wsL_number := goodIn_r _ [20, 1, 2, 3, 4, 5, 6, 7, 8, 9, 10, 11, 12, 13, 14, 15, 16, 21, 22, 23, 24, 25, 26, 27, 28, 29, 30, 31, 32, 33, 34, 35] (by decide +kernel) (by decide +kernel)
set_option maxRecDepth 20000 in
theorem gL_item_L_number : GoodIn wsL_item (va_wsS RL 15 yL_number wsL_number) := goodIn_app (goodIn_of _ (by decide +kernel)) ggL_item_L_number
theorem dL_item_0 : decode cL_item 0 = .ok (.aload_n 0, 1) := by decide +kernel
theorem dL_item_1 : decode cL_item 1 = .ok (.iconst 1, 1) := by decide +kernel
theorem dL_item_2 : decode cL_item 2 = .ok (.iload_n 1, 1) := by decide +kernel
theorem dL_item_3 : decode cL_item 3 = .ok (.i2l, 1) := by decide +kernel
theorem dL_item_4 : decode cL_item 4 = .ok (.invokevirtual 9, 3) := by decide +kernel
theorem dL_item_7 : decode cL_item 7 = .ok (.ifCond .le 7, 3) := by decide +kernel
theorem dL_item_10 : decode cL_item 10 = .ok (.iconst 1, 1) := by decide +kernel
theorem dL_item_11 : decode cL_item 11 = .ok (.goto 4, 3) := by decide +kernel
theorem dL_item_14 : decode cL_item 14 = .ok (.iconst 0, 1) := by decide +kernel
theorem dL_item_15 : decode cL_item 15 = .ok (.istore 10, 2) := by decide +kernel
theorem dL_item_17 : decode cL_item 17 = .ok (.iconst 0, 1) := by decide +kernel
theorem dL_item_18 : decode cL_item 18 = .ok (.istore 11, 2) := by decide +kernel
theorem dL_item_20 : decode cL_item 20 = .ok (.iload 11, 2) := by decide +kernel
theorem dL_item_22 : decode cL_item 22 = .ok (.iload_n 2, 1) := by decide +kernel
theorem dL_item_23 : decode cL_item 23 = .ok (.if_icmp .ge 113, 3) := by decide +kernel
theorem dL_item_26 : decode cL_item 26 = .ok (.iload 11, 2) := by decide +kernel
theorem dL_item_28 : decode cL_item 28 = .ok (.ifCond .ne 7, 3) := by decide +kernel
theorem dL_item_31 : decode cL_item 31 = .ok (.iload_n 3, 1) := by decide +kernel
theorem dL_item_32 : decode cL_item 32 = .ok (.goto 60, 3) := by decide +kernel
theorem dL_item_35 : decode cL_item 35 = .ok (.iload 11, 2) := by decide +kernel
theorem dL_item_37 : decode cL_item 37 = .ok (.iconst 1, 1) := by decide +kernel
theorem dL_item_38 : decode cL_item 38 = .ok (.if_icmp .ne 8, 3) := by decide +kernel
theorem dL_item_41 : decode cL_item 41 = .ok (.iload 4, 2) := by decide +kernel
theorem dL_item_43 : decode cL_item 43 = .ok (.goto 49, 3) := by decide +kernel
theorem dL_item_46 : decode cL_item 46 = .ok (.iload 11, 2) := by decide +kernel
theorem dL_item_48 : decode cL_item 48 = .ok (.iconst 2, 1) := by decide +kernel
theorem dL_item_49 : decode cL_item 49 = .ok (.if_icmp .ne 8, 3) := by decide +kernel
theorem dL_item_52 : decode cL_item 52 = .ok (.iload 5, 2) := by decide +kernel
theorem dL_item_54 : decode cL_item 54 = .ok (.goto 38, 3) := by decide +kernel
theorem dL_item_57 : decode cL_item 57 = .ok (.iload 11, 2) := by decide +kernel
theorem dL_item_59 : decode cL_item 59 = .ok (.iconst 3, 1) := by decide +kernel
theorem dL_item_60 : decode cL_item 60 = .ok (.if_icmp .ne 8, 3) := by decide +kernel
theorem dL_item_63 : decode cL_item 63 = .ok (.iload 6, 2) := by decide +kernel
theorem dL_item_65 : decode cL_item 65 = .ok (.goto 27, 3) := by decide +kernel
theorem dL_item_68 : decode cL_item 68 = .ok (.iload 11, 2) := by decide +kernel
theorem dL_item_70 : decode cL_item 70 = .ok (.iconst 4, 1) := by decide +kernel
theorem dL_item_71 : decode cL_item 71 = .ok (.if_icmp .ne 8, 3) := by decide +kernel
theorem dL_item_74 : decode cL_item 74 = .ok (.iload 7, 2) := by decide +kernel
theorem dL_item_76 : decode cL_item 76 = .ok (.goto 16, 3) := by decide +kernel
theorem dL_item_79 : decode cL_item 79 = .ok (.iload 11, 2) := by decide +kernel
theorem dL_item_81 : decode cL_item 81 = .ok (.iconst 5, 1) := by decide +kernel
theorem dL_item_82 : decode cL_item 82 = .ok (.if_icmp .ne 8, 3) := by decide +kernel
theorem dL_item_85 : decode cL_item 85 = .ok (.iload 8, 2) := by decide +kernel
theorem dL_item_87 : decode cL_item 87 = .ok (.goto 5, 3) := by decide +kernel
theorem dL_item_90 : decode cL_item 90 = .ok (.iload 9, 2) := by decide +kernel
theorem dL_item_92 : decode cL_item 92 = .ok (.istore 12, 2) := by decide +kernel
theorem dL_item_94 : decode cL_item 94 = .ok (.iload 10, 2) := by decide +kernel
theorem dL_item_96 : decode cL_item 96 = .ok (.ifCond .eq 31, 3) := by decide +kernel
theorem dL_item_99 : decode cL_item 99 = .ok (.aload_n 0, 1) := by decide +kernel
theorem dL_item_100 : decode cL_item 100 = .ok (.iload 12, 2) := by decide +kernel
theorem dL_item_102 : decode cL_item 102 = .ok (.iload 11, 2) := by decide +kernel
theorem dL_item_104 : decode cL_item 104 = .ok (.iload_n 2, 1) := by decide +kernel
theorem dL_item_105 : decode cL_item 105 = .ok (.iconst 1, 1) := by decide +kernel
theorem dL_item_106 : decode cL_item 106 = .ok (.isub, 1) := by decide +kernel
theorem dL_item_107 : decode cL_item 107 = .ok (.if_icmp .ge 8, 3) := by decide +kernel
theorem dL_item_110 : decode cL_item 110 = .ok (.bipush 44, 2) := by decide +kernel
theorem dL_item_112 : decode cL_item 112 = .ok (.goto 5, 3) := by decide +kernel
theorem dL_item_115 : decode cL_item 115 = .ok (.bipush 59, 2) := by decide +kernel
theorem dL_item_117 : decode cL_item 117 = .ok (.invokestatic 15, 3) := by decide +kernel
theorem dL_item_120 : decode cL_item 120 = .ok (.ifCond .eq 7, 3) := by decide +kernel
theorem dL_item_123 : decode cL_item 123 = .ok (.iconst 1, 1) := by decide +kernel
theorem dL_item_124 : decode cL_item 124 = .ok (.goto 4, 3) := by decide +kernel
theorem dL_item_127 : decode cL_item 127 = .ok (.iconst 0, 1) := by decide +kernel
theorem dL_item_128 : decode cL_item 128 = .ok (.istore 10, 2) := by decide +kernel
theorem dL_item_130 : decode cL_item 130 = .ok (.iinc 11 1, 3) := by decide +kernel
theorem dL_item_133 : decode cL_item 133 = .ok (.goto (-113), 3) := by decide +kernel
theorem dL_item_136 : decode cL_item 136 = .ok (.iload 10, 2) := by decide +kernel
theorem dL_item_138 : decode cL_item 138 = .ok (.ireturn, 1) := by decide +kernel
set_option maxRecDepth 20000 in
theorem ggL_fight_L_cell : GoodIn wsL_fight wsL_cell := goodIn_r _ [4, 5] (by decide +kernel) (by decide +kernel)
set_option maxRecDepth 20000 in
theorem gL_fight_L_cell : GoodIn wsL_fight (va_wsS RL 21 yL_cell wsL_cell) := goodIn_app (goodIn_of _ (by decide +kernel)) ggL_fight_L_cell
set_option maxRecDepth 20000 in
theorem ggL_fight_L_some : GoodIn wsL_fight wsL_some := goodIn_r _ [8, 9] (by decide +kernel) (by decide +kernel)
set_option maxRecDepth 20000 in
theorem gL_fight_L_some : GoodIn wsL_fight (va_wsS RL 25 yL_some wsL_some) := goodIn_app (goodIn_of _ (by decide +kernel)) ggL_fight_L_some
set_option maxRecDepth 20000 in
theorem ggL_fight_X10_wipe : GoodIn wsL_fight wsX10_wipe := goodIn_r _ [14, 15, 16, 17, 18, 19, 20, 21, 244, 245, 246, 247, 248, 249, 250, 251, 252, 253, 254, 255, 256, 257, 258] (by decide +kernel) (by decide +kernel)
set_option maxRecDepth 20000 in
theorem gL_fight_X10_wipe : GoodIn wsL_fight (wsV RL 29 RX10 yX10_wipe wsX10_wipe) := goodIn_app (goodIn_of _ (by decide +kernel)) ggL_fight_X10_wipe
set_option maxRecDepth 20000 in
theorem ggL_fight_L_item : GoodIn wsL_fight wsL_item := goodIn_r _ [24, 25, 26, 27, 13, 28, 15, 29, 30, 31, 32, 33, 34, 19, 35, 21, 36, 37, 38, 3, 39, 244, 245, 246, 247, 248, 249, 250, 251, 252, 253, 254, 255, 256, 257, 258] (by decide +kernel) (by decide +kernel)
set_option maxRecDepth 20000 in
theorem gL_fight_L_item : GoodIn wsL_fight (va_wsS RL 33 yL_item wsL_item) := goodIn_app (goodIn_of _ (by decide +kernel)) ggL_fight_L_item
set_option maxRecDepth 20000 in
theorem ggL_fight_X10_fault : GoodIn wsL_fight wsX10_fault := goodIn_r _ [43, 44, 45, 46, 47, 48, 49, 50, 51, 52, 53, 54, 55, 56, 57, 58, 59, 60, 61, 62, 63, 64, 65, 66, 67, 68, 69, 70, 71, 72, 73, 74, 75, 76, 77, 78, 79, 80, 19, 81, 21, 36, 82, 83, 84, 85, 86, 87, 88, 89, 90, 91, 92, 93, 94, 95, 96, 97, 98, 99, 100, 101, 102, 103, 104, 105, 106, 107, 108, 109, 110, 111, 112, 113, 114, 115, 116, 117, 118, 119, 120, 121, 122, 123, 124, 125, 126, 127, 128, 129, 130, 131, 132, 133, 134, 135, 136, 137, 138, 139, 140, 141, 142, 143, 144, 145, 146, 147, 148, 149, 150, 151, 152, 153, 154, 155, 156, 157, 158, 159, 160, 161, 162, 163, 164, 165, 166, 167, 168, 169, 170, 171, 172, 173, 174, 30, 13, 31, 175, 176, 177, 178, 179, 180, 181, 182, 183, 184, 185, 186, 187, 188, 189, 190, 191, 192, 193, 194, 195, 196, 244, 245, 246, 247, 248, 249, 250, 251, 252, 253, 254, 255, 256, 259, 260, 261, 257, 258, 262, 263, 264, 265, 266, 267, 268, 269, 270, 271, 272, 273, 274] (by decide +kernel) (by decide +kernel)
set_option maxRecDepth 20000 in
theorem gL_fight_X10_fault : GoodIn wsL_fight (wsV RL 37 RX10 yX10_fault wsX10_fault) := goodIn_app (goodIn_of _ (by decide +kernel)) ggL_fight_X10_fault
set_option maxRecDepth 20000 in
theorem ggL_fight_X10_lay : GoodIn wsL_fight wsX10_lay := goodIn_r _ [200, 44, 45, 201, 202, 203, 46, 47, 48, 49, 50, 51, 52, 53, 54, 55, 56, 57, 58, 59, 60, 61, 62, 63, 64, 65, 66, 67, 68, 69, 70, 71, 72, 73, 74, 75, 76, 77, 78, 79, 80, 19, 81, 21, 36, 82, 83, 84, 85, 86, 87, 88, 89, 90, 91, 92, 93, 94, 95, 96, 97, 98, 99, 100, 101, 102, 103, 104, 105, 106, 107, 108, 109, 110, 111, 112, 113, 114, 115, 116, 117, 118, 119, 120, 121, 122, 123, 124, 125, 126, 127, 128, 129, 130, 131, 132, 133, 134, 135, 136, 137, 138, 139, 140, 141, 142, 143, 144, 145, 146, 147, 148, 149, 150, 151, 152, 153, 154, 155, 156, 157, 158, 159, 160, 161, 162, 163, 164, 165, 166, 167, 168, 169, 170, 171, 172, 173, 174, 30, 13, 31, 175, 176, 177, 178, 179, 180, 181, 182, 183, 184, 185, 186, 187, 188, 189, 190, 191, 192, 193, 194, 195, 196, 204, 205, 206, 207, 208, 209, 210, 211, 212, 213, 214, 215, 216, 217, 218, 219, 220, 221, 222, 223, 224, 225, 226, 227, 228, 229, 230, 231, 232, 233, 234, 235, 236, 237, 238, 239, 240, 241, 242, 243, 244, 245, 246, 247, 248, 249, 250, 251, 252, 253, 254, 255, 256, 262, 263, 264, 265, 266, 267, 268, 269, 270, 271, 272, 273, 274, 259, 260, 261, 257, 258, 275, 276, 277] (by decide +kernel) (by decide +kernel)
set_option maxRecDepth 20000 in
theorem gL_fight_X10_lay : GoodIn wsL_fight (wsV RL 40 RX10 yX10_lay wsX10_lay) := goodIn_app (goodIn_of _ (by decide +kernel)) ggL_fight_X10_lay
theorem dL_fight_0 : decode cL_fight 0 = .ok (.aload_n 1, 1) := by decide +kernel
theorem dL_fight_1 : decode cL_fight 1 = .ok (.iload_n 2, 1) := by decide +kernel
theorem dL_fight_2 : decode cL_fight 2 = .ok (.invokestatic 21, 3) := by decide +kernel
theorem dL_fight_5 : decode cL_fight 5 = .ok (.istore 6, 2) := by decide +kernel
theorem dL_fight_7 : decode cL_fight 7 = .ok (.aload_n 3, 1) := by decide +kernel
theorem dL_fight_8 : decode cL_fight 8 = .ok (.iconst 0, 1) := by decide +kernel
theorem dL_fight_9 : decode cL_fight 9 = .ok (.iconst 1, 1) := by decide +kernel
theorem dL_fight_10 : decode cL_fight 10 = .ok (.iload 6, 2) := by decide +kernel
theorem dL_fight_12 : decode cL_fight 12 = .ok (.iconst 5, 1) := by decide +kernel
theorem dL_fight_13 : decode cL_fight 13 = .ok (.invokestatic 25, 3) := by decide +kernel
theorem dL_fight_16 : decode cL_fight 16 = .ok (.iadd, 1) := by decide +kernel
theorem dL_fight_17 : decode cL_fight 17 = .ok (.iastore, 1) := by decide +kernel
theorem dL_fight_18 : decode cL_fight 18 = .ok (.aload_n 3, 1) := by decide +kernel
theorem dL_fight_19 : decode cL_fight 19 = .ok (.iconst 1, 1) := by decide +kernel
theorem dL_fight_20 : decode cL_fight 20 = .ok (.iconst 3, 1) := by decide +kernel
theorem dL_fight_21 : decode cL_fight 21 = .ok (.iload 6, 2) := by decide +kernel
theorem dL_fight_23 : decode cL_fight 23 = .ok (.iconst 3, 1) := by decide +kernel
theorem dL_fight_24 : decode cL_fight 24 = .ok (.ishr, 1) := by decide +kernel
theorem dL_fight_25 : decode cL_fight 25 = .ok (.iconst 3, 1) := by decide +kernel
theorem dL_fight_26 : decode cL_fight 26 = .ok (.invokestatic 25, 3) := by decide +kernel
theorem dL_fight_29 : decode cL_fight 29 = .ok (.iadd, 1) := by decide +kernel
theorem dL_fight_30 : decode cL_fight 30 = .ok (.iastore, 1) := by decide +kernel
theorem dL_fight_31 : decode cL_fight 31 = .ok (.aload_n 3, 1) := by decide +kernel
theorem dL_fight_32 : decode cL_fight 32 = .ok (.iconst 2, 1) := by decide +kernel
theorem dL_fight_33 : decode cL_fight 33 = .ok (.iload 6, 2) := by decide +kernel
theorem dL_fight_35 : decode cL_fight 35 = .ok (.bipush 6, 2) := by decide +kernel
theorem dL_fight_37 : decode cL_fight 37 = .ok (.ishr, 1) := by decide +kernel
theorem dL_fight_38 : decode cL_fight 38 = .ok (.bipush 13, 2) := by decide +kernel
theorem dL_fight_40 : decode cL_fight 40 = .ok (.invokestatic 25, 3) := by decide +kernel
theorem dL_fight_43 : decode cL_fight 43 = .ok (.iastore, 1) := by decide +kernel
theorem dL_fight_44 : decode cL_fight 44 = .ok (.aload_n 3, 1) := by decide +kernel
theorem dL_fight_45 : decode cL_fight 45 = .ok (.iconst 3, 1) := by decide +kernel
theorem dL_fight_46 : decode cL_fight 46 = .ok (.iload 6, 2) := by decide +kernel
theorem dL_fight_48 : decode cL_fight 48 = .ok (.bipush 10, 2) := by decide +kernel
theorem dL_fight_50 : decode cL_fight 50 = .ok (.ishr, 1) := by decide +kernel
theorem dL_fight_51 : decode cL_fight 51 = .ok (.iconst 1, 1) := by decide +kernel
theorem dL_fight_52 : decode cL_fight 52 = .ok (.iand, 1) := by decide +kernel
theorem dL_fight_53 : decode cL_fight 53 = .ok (.iastore, 1) := by decide +kernel
theorem dL_fight_54 : decode cL_fight 54 = .ok (.aload_n 3, 1) := by decide +kernel
theorem dL_fight_55 : decode cL_fight 55 = .ok (.iconst 4, 1) := by decide +kernel
theorem dL_fight_56 : decode cL_fight 56 = .ok (.iload 6, 2) := by decide +kernel
theorem dL_fight_58 : decode cL_fight 58 = .ok (.bipush 11, 2) := by decide +kernel
theorem dL_fight_60 : decode cL_fight 60 = .ok (.ishr, 1) := by decide +kernel
theorem dL_fight_61 : decode cL_fight 61 = .ok (.bipush 10, 2) := by decide +kernel
theorem dL_fight_63 : decode cL_fight 63 = .ok (.invokestatic 25, 3) := by decide +kernel
theorem dL_fight_66 : decode cL_fight 66 = .ok (.iastore, 1) := by decide +kernel
theorem dL_fight_67 : decode cL_fight 67 = .ok (.aload_n 0, 1) := by decide +kernel
theorem dL_fight_68 : decode cL_fight 68 = .ok (.invokevirtual 29, 3) := by decide +kernel
theorem dL_fight_71 : decode cL_fight 71 = .ok (.ifCond .lt 47, 3) := by decide +kernel
theorem dL_fight_74 : decode cL_fight 74 = .ok (.aload_n 0, 1) := by decide +kernel
theorem dL_fight_75 : decode cL_fight 75 = .ok (.bipush 114, 2) := by decide +kernel
theorem dL_fight_77 : decode cL_fight 77 = .ok (.iconst 1, 1) := by decide +kernel
theorem dL_fight_78 : decode cL_fight 78 = .ok (.aload_n 3, 1) := by decide +kernel
theorem dL_fight_79 : decode cL_fight 79 = .ok (.iconst 0, 1) := by decide +kernel
theorem dL_fight_80 : decode cL_fight 80 = .ok (.iaload, 1) := by decide +kernel
theorem dL_fight_81 : decode cL_fight 81 = .ok (.iconst 0, 1) := by decide +kernel
theorem dL_fight_82 : decode cL_fight 82 = .ok (.iconst 0, 1) := by decide +kernel
theorem dL_fight_83 : decode cL_fight 83 = .ok (.iconst 0, 1) := by decide +kernel
theorem dL_fight_84 : decode cL_fight 84 = .ok (.iconst 0, 1) := by decide +kernel
theorem dL_fight_85 : decode cL_fight 85 = .ok (.iconst 0, 1) := by decide +kernel
theorem dL_fight_86 : decode cL_fight 86 = .ok (.iconst 0, 1) := by decide +kernel
theorem dL_fight_87 : decode cL_fight 87 = .ok (.invokestatic 33, 3) := by decide +kernel
theorem dL_fight_90 : decode cL_fight 90 = .ok (.ifCond .eq 28, 3) := by decide +kernel
theorem dL_fight_93 : decode cL_fight 93 = .ok (.aload_n 0, 1) := by decide +kernel
theorem dL_fight_94 : decode cL_fight 94 = .ok (.bipush 104, 2) := by decide +kernel
theorem dL_fight_96 : decode cL_fight 96 = .ok (.iconst 2, 1) := by decide +kernel
theorem dL_fight_97 : decode cL_fight 97 = .ok (.aload_n 3, 1) := by decide +kernel
theorem dL_fight_98 : decode cL_fight 98 = .ok (.iconst 3, 1) := by decide +kernel
theorem dL_fight_99 : decode cL_fight 99 = .ok (.iaload, 1) := by decide +kernel
theorem dL_fight_100 : decode cL_fight 100 = .ok (.aload_n 3, 1) := by decide +kernel
theorem dL_fight_101 : decode cL_fight 101 = .ok (.iconst 4, 1) := by decide +kernel
theorem dL_fight_102 : decode cL_fight 102 = .ok (.iaload, 1) := by decide +kernel
theorem dL_fight_103 : decode cL_fight 103 = .ok (.iconst 0, 1) := by decide +kernel
theorem dL_fight_104 : decode cL_fight 104 = .ok (.iconst 0, 1) := by decide +kernel
theorem dL_fight_105 : decode cL_fight 105 = .ok (.iconst 0, 1) := by decide +kernel
theorem dL_fight_106 : decode cL_fight 106 = .ok (.iconst 0, 1) := by decide +kernel
theorem dL_fight_107 : decode cL_fight 107 = .ok (.iconst 0, 1) := by decide +kernel
theorem dL_fight_108 : decode cL_fight 108 = .ok (.invokestatic 33, 3) := by decide +kernel
theorem dL_fight_111 : decode cL_fight 111 = .ok (.ifCond .eq 7, 3) := by decide +kernel
theorem dL_fight_114 : decode cL_fight 114 = .ok (.iconst 1, 1) := by decide +kernel
theorem dL_fight_115 : decode cL_fight 115 = .ok (.goto 4, 3) := by decide +kernel
theorem dL_fight_118 : decode cL_fight 118 = .ok (.iconst 0, 1) := by decide +kernel
theorem dL_fight_119 : decode cL_fight 119 = .ok (.istore 7, 2) := by decide +kernel
theorem dL_fight_121 : decode cL_fight 121 = .ok (.iconst 0, 1) := by decide +kernel
theorem dL_fight_122 : decode cL_fight 122 = .ok (.istore 8, 2) := by decide +kernel
theorem dL_fight_124 : decode cL_fight 124 = .ok (.iload 8, 2) := by decide +kernel
theorem dL_fight_126 : decode cL_fight 126 = .ok (.aload_n 3, 1) := by decide +kernel
theorem dL_fight_127 : decode cL_fight 127 = .ok (.iconst 2, 1) := by decide +kernel
theorem dL_fight_128 : decode cL_fight 128 = .ok (.iaload, 1) := by decide +kernel
theorem dL_fight_129 : decode cL_fight 129 = .ok (.if_icmp .ge 206, 3) := by decide +kernel
theorem dL_fight_132 : decode cL_fight 132 = .ok (.aload_n 1, 1) := by decide +kernel
theorem dL_fight_133 : decode cL_fight 133 = .ok (.iload_n 2, 1) := by decide +kernel
theorem dL_fight_134 : decode cL_fight 134 = .ok (.iconst 1, 1) := by decide +kernel
theorem dL_fight_135 : decode cL_fight 135 = .ok (.iadd, 1) := by decide +kernel
theorem dL_fight_136 : decode cL_fight 136 = .ok (.iload 8, 2) := by decide +kernel
theorem dL_fight_138 : decode cL_fight 138 = .ok (.iadd, 1) := by decide +kernel
theorem dL_fight_139 : decode cL_fight 139 = .ok (.invokestatic 21, 3) := by decide +kernel
theorem dL_fight_142 : decode cL_fight 142 = .ok (.istore 9, 2) := by decide +kernel
theorem dL_fight_144 : decode cL_fight 144 = .ok (.aload 4, 2) := by decide +kernel
theorem dL_fight_146 : decode cL_fight 146 = .ok (.iconst 5, 1) := by decide +kernel
theorem dL_fight_147 : decode cL_fight 147 = .ok (.iload 8, 2) := by decide +kernel
theorem dL_fight_149 : decode cL_fight 149 = .ok (.imul, 1) := by decide +kernel
theorem dL_fight_150 : decode cL_fight 150 = .ok (.iload 9, 2) := by decide +kernel
theorem dL_fight_152 : decode cL_fight 152 = .ok (.aload_n 3, 1) := by decide +kernel
theorem dL_fight_153 : decode cL_fight 153 = .ok (.iconst 0, 1) := by decide +kernel
theorem dL_fight_154 : decode cL_fight 154 = .ok (.iaload, 1) := by decide +kernel
theorem dL_fight_155 : decode cL_fight 155 = .ok (.iconst 1, 1) := by decide +kernel
theorem dL_fight_156 : decode cL_fight 156 = .ok (.iadd, 1) := by decide +kernel
theorem dL_fight_157 : decode cL_fight 157 = .ok (.invokestatic 25, 3) := by decide +kernel
theorem dL_fight_160 : decode cL_fight 160 = .ok (.iastore, 1) := by decide +kernel
theorem dL_fight_161 : decode cL_fight 161 = .ok (.aload 4, 2) := by decide +kernel
theorem dL_fight_163 : decode cL_fight 163 = .ok (.iconst 5, 1) := by decide +kernel
theorem dL_fight_164 : decode cL_fight 164 = .ok (.iload 8, 2) := by decide +kernel
theorem dL_fight_166 : decode cL_fight 166 = .ok (.imul, 1) := by decide +kernel
theorem dL_fight_167 : decode cL_fight 167 = .ok (.iconst 1, 1) := by decide +kernel
theorem dL_fight_168 : decode cL_fight 168 = .ok (.iadd, 1) := by decide +kernel
theorem dL_fight_169 : decode cL_fight 169 = .ok (.iload 9, 2) := by decide +kernel
theorem dL_fight_171 : decode cL_fight 171 = .ok (.iconst 4, 1) := by decide +kernel
theorem dL_fight_172 : decode cL_fight 172 = .ok (.ishr, 1) := by decide +kernel
theorem dL_fight_173 : decode cL_fight 173 = .ok (.iconst 3, 1) := by decide +kernel
theorem dL_fight_174 : decode cL_fight 174 = .ok (.iand, 1) := by decide +kernel
theorem dL_fight_175 : decode cL_fight 175 = .ok (.ifCond .ne 20, 3) := by decide +kernel
theorem dL_fight_178 : decode cL_fight 178 = .ok (.sipush 165, 3) := by decide +kernel
theorem dL_fight_181 : decode cL_fight 181 = .ok (.iload 9, 2) := by decide +kernel
theorem dL_fight_183 : decode cL_fight 183 = .ok (.bipush 6, 2) := by decide +kernel
theorem dL_fight_185 : decode cL_fight 185 = .ok (.ishr, 1) := by decide +kernel
theorem dL_fight_186 : decode cL_fight 186 = .ok (.bipush 15, 2) := by decide +kernel
theorem dL_fight_188 : decode cL_fight 188 = .ok (.invokestatic 25, 3) := by decide +kernel
theorem dL_fight_191 : decode cL_fight 191 = .ok (.iadd, 1) := by decide +kernel
theorem dL_fight_192 : decode cL_fight 192 = .ok (.goto 13, 3) := by decide +kernel
theorem dL_fight_195 : decode cL_fight 195 = .ok (.iload 9, 2) := by decide +kernel
theorem dL_fight_197 : decode cL_fight 197 = .ok (.bipush 6, 2) := by decide +kernel
theorem dL_fight_199 : decode cL_fight 199 = .ok (.ishr, 1) := by decide +kernel
theorem dL_fight_200 : decode cL_fight 200 = .ok (.bipush 24, 2) := by decide +kernel
theorem dL_fight_202 : decode cL_fight 202 = .ok (.invokestatic 25, 3) := by decide +kernel
theorem dL_fight_205 : decode cL_fight 205 = .ok (.iastore, 1) := by decide +kernel
theorem dL_fight_206 : decode cL_fight 206 = .ok (.aload 4, 2) := by decide +kernel
theorem dL_fight_208 : decode cL_fight 208 = .ok (.iconst 5, 1) := by decide +kernel
theorem dL_fight_209 : decode cL_fight 209 = .ok (.iload 8, 2) := by decide +kernel
theorem dL_fight_211 : decode cL_fight 211 = .ok (.imul, 1) := by decide +kernel
theorem dL_fight_212 : decode cL_fight 212 = .ok (.iconst 2, 1) := by decide +kernel
theorem dL_fight_213 : decode cL_fight 213 = .ok (.iadd, 1) := by decide +kernel
theorem dL_fight_214 : decode cL_fight 214 = .ok (.iload 9, 2) := by decide +kernel
theorem dL_fight_216 : decode cL_fight 216 = .ok (.bipush 11, 2) := by decide +kernel
theorem dL_fight_218 : decode cL_fight 218 = .ok (.ishr, 1) := by decide +kernel
theorem dL_fight_219 : decode cL_fight 219 = .ok (.iconst 1, 1) := by decide +kernel
theorem dL_fight_220 : decode cL_fight 220 = .ok (.iand, 1) := by decide +kernel
theorem dL_fight_221 : decode cL_fight 221 = .ok (.iastore, 1) := by decide +kernel
theorem dL_fight_222 : decode cL_fight 222 = .ok (.aload 4, 2) := by decide +kernel
theorem dL_fight_224 : decode cL_fight 224 = .ok (.iconst 5, 1) := by decide +kernel
theorem dL_fight_225 : decode cL_fight 225 = .ok (.iload 8, 2) := by decide +kernel
theorem dL_fight_227 : decode cL_fight 227 = .ok (.imul, 1) := by decide +kernel
theorem dL_fight_228 : decode cL_fight 228 = .ok (.iconst 3, 1) := by decide +kernel
theorem dL_fight_229 : decode cL_fight 229 = .ok (.iadd, 1) := by decide +kernel
theorem dL_fight_230 : decode cL_fight 230 = .ok (.iconst 1, 1) := by decide +kernel
theorem dL_fight_231 : decode cL_fight 231 = .ok (.iload 9, 2) := by decide +kernel
theorem dL_fight_233 : decode cL_fight 233 = .ok (.bipush 12, 2) := by decide +kernel
theorem dL_fight_235 : decode cL_fight 235 = .ok (.ishr, 1) := by decide +kernel
theorem dL_fight_236 : decode cL_fight 236 = .ok (.bipush 9, 2) := by decide +kernel
theorem dL_fight_238 : decode cL_fight 238 = .ok (.invokestatic 25, 3) := by decide +kernel
theorem dL_fight_241 : decode cL_fight 241 = .ok (.iadd, 1) := by decide +kernel
theorem dL_fight_242 : decode cL_fight 242 = .ok (.iastore, 1) := by decide +kernel
theorem dL_fight_243 : decode cL_fight 243 = .ok (.aload 4, 2) := by decide +kernel
theorem dL_fight_245 : decode cL_fight 245 = .ok (.iconst 5, 1) := by decide +kernel
theorem dL_fight_246 : decode cL_fight 246 = .ok (.iload 8, 2) := by decide +kernel
theorem dL_fight_248 : decode cL_fight 248 = .ok (.imul, 1) := by decide +kernel
theorem dL_fight_249 : decode cL_fight 249 = .ok (.iconst 4, 1) := by decide +kernel
theorem dL_fight_250 : decode cL_fight 250 = .ok (.iadd, 1) := by decide +kernel
theorem dL_fight_251 : decode cL_fight 251 = .ok (.iload 9, 2) := by decide +kernel
theorem dL_fight_253 : decode cL_fight 253 = .ok (.bipush 16, 2) := by decide +kernel
theorem dL_fight_255 : decode cL_fight 255 = .ok (.ishr, 1) := by decide +kernel
theorem dL_fight_256 : decode cL_fight 256 = .ok (.bipush 12, 2) := by decide +kernel
theorem dL_fight_258 : decode cL_fight 258 = .ok (.invokestatic 25, 3) := by decide +kernel
theorem dL_fight_261 : decode cL_fight 261 = .ok (.iastore, 1) := by decide +kernel
theorem dL_fight_262 : decode cL_fight 262 = .ok (.iload 7, 2) := by decide +kernel
theorem dL_fight_264 : decode cL_fight 264 = .ok (.ifCond .eq 62, 3) := by decide +kernel
theorem dL_fight_267 : decode cL_fight 267 = .ok (.aload_n 0, 1) := by decide +kernel
theorem dL_fight_268 : decode cL_fight 268 = .ok (.bipush 98, 2) := by decide +kernel
theorem dL_fight_270 : decode cL_fight 270 = .ok (.iconst 5, 1) := by decide +kernel
theorem dL_fight_271 : decode cL_fight 271 = .ok (.aload 4, 2) := by decide +kernel
theorem dL_fight_273 : decode cL_fight 273 = .ok (.iconst 5, 1) := by decide +kernel
theorem dL_fight_274 : decode cL_fight 274 = .ok (.iload 8, 2) := by decide +kernel
theorem dL_fight_276 : decode cL_fight 276 = .ok (.imul, 1) := by decide +kernel
theorem dL_fight_277 : decode cL_fight 277 = .ok (.iaload, 1) := by decide +kernel
theorem dL_fight_278 : decode cL_fight 278 = .ok (.aload 4, 2) := by decide +kernel
theorem dL_fight_280 : decode cL_fight 280 = .ok (.iconst 5, 1) := by decide +kernel
theorem dL_fight_281 : decode cL_fight 281 = .ok (.iload 8, 2) := by decide +kernel
theorem dL_fight_283 : decode cL_fight 283 = .ok (.imul, 1) := by decide +kernel
theorem dL_fight_284 : decode cL_fight 284 = .ok (.iconst 1, 1) := by decide +kernel
theorem dL_fight_285 : decode cL_fight 285 = .ok (.iadd, 1) := by decide +kernel
theorem dL_fight_286 : decode cL_fight 286 = .ok (.iaload, 1) := by decide +kernel
theorem dL_fight_287 : decode cL_fight 287 = .ok (.aload 4, 2) := by decide +kernel
theorem dL_fight_289 : decode cL_fight 289 = .ok (.iconst 5, 1) := by decide +kernel
theorem dL_fight_290 : decode cL_fight 290 = .ok (.iload 8, 2) := by decide +kernel
theorem dL_fight_292 : decode cL_fight 292 = .ok (.imul, 1) := by decide +kernel
theorem dL_fight_293 : decode cL_fight 293 = .ok (.iconst 2, 1) := by decide +kernel
theorem dL_fight_294 : decode cL_fight 294 = .ok (.iadd, 1) := by decide +kernel
theorem dL_fight_295 : decode cL_fight 295 = .ok (.iaload, 1) := by decide +kernel
theorem dL_fight_296 : decode cL_fight 296 = .ok (.aload 4, 2) := by decide +kernel
theorem dL_fight_298 : decode cL_fight 298 = .ok (.iconst 5, 1) := by decide +kernel
theorem dL_fight_299 : decode cL_fight 299 = .ok (.iload 8, 2) := by decide +kernel
theorem dL_fight_301 : decode cL_fight 301 = .ok (.imul, 1) := by decide +kernel
theorem dL_fight_302 : decode cL_fight 302 = .ok (.iconst 3, 1) := by decide +kernel
theorem dL_fight_303 : decode cL_fight 303 = .ok (.iadd, 1) := by decide +kernel
theorem dL_fight_304 : decode cL_fight 304 = .ok (.iaload, 1) := by decide +kernel
theorem dL_fight_305 : decode cL_fight 305 = .ok (.aload 4, 2) := by decide +kernel
theorem dL_fight_307 : decode cL_fight 307 = .ok (.iconst 5, 1) := by decide +kernel
theorem dL_fight_308 : decode cL_fight 308 = .ok (.iload 8, 2) := by decide +kernel
theorem dL_fight_310 : decode cL_fight 310 = .ok (.imul, 1) := by decide +kernel
theorem dL_fight_311 : decode cL_fight 311 = .ok (.iconst 4, 1) := by decide +kernel
theorem dL_fight_312 : decode cL_fight 312 = .ok (.iadd, 1) := by decide +kernel
theorem dL_fight_313 : decode cL_fight 313 = .ok (.iaload, 1) := by decide +kernel
theorem dL_fight_314 : decode cL_fight 314 = .ok (.iconst 0, 1) := by decide +kernel
theorem dL_fight_315 : decode cL_fight 315 = .ok (.iconst 0, 1) := by decide +kernel
theorem dL_fight_316 : decode cL_fight 316 = .ok (.invokestatic 33, 3) := by decide +kernel
theorem dL_fight_319 : decode cL_fight 319 = .ok (.ifCond .eq 7, 3) := by decide +kernel
theorem dL_fight_322 : decode cL_fight 322 = .ok (.iconst 1, 1) := by decide +kernel
theorem dL_fight_323 : decode cL_fight 323 = .ok (.goto 4, 3) := by decide +kernel
theorem dL_fight_326 : decode cL_fight 326 = .ok (.iconst 0, 1) := by decide +kernel
theorem dL_fight_327 : decode cL_fight 327 = .ok (.istore 7, 2) := by decide +kernel
theorem dL_fight_329 : decode cL_fight 329 = .ok (.iinc 8 1, 3) := by decide +kernel
theorem dL_fight_332 : decode cL_fight 332 = .ok (.goto (-208), 3) := by decide +kernel
theorem dL_fight_335 : decode cL_fight 335 = .ok (.iconst 0, 1) := by decide +kernel
theorem dL_fight_336 : decode cL_fight 336 = .ok (.istore 8, 2) := by decide +kernel
theorem dL_fight_338 : decode cL_fight 338 = .ok (.iload 8, 2) := by decide +kernel
theorem dL_fight_340 : decode cL_fight 340 = .ok (.bipush 6, 2) := by decide +kernel
theorem dL_fight_342 : decode cL_fight 342 = .ok (.if_icmp .ge 215, 3) := by decide +kernel
theorem dL_fight_345 : decode cL_fight 345 = .ok (.aload_n 1, 1) := by decide +kernel
theorem dL_fight_346 : decode cL_fight 346 = .ok (.iload_n 2, 1) := by decide +kernel
theorem dL_fight_347 : decode cL_fight 347 = .ok (.bipush 13, 2) := by decide +kernel
theorem dL_fight_349 : decode cL_fight 349 = .ok (.iadd, 1) := by decide +kernel
theorem dL_fight_350 : decode cL_fight 350 = .ok (.iload 8, 2) := by decide +kernel
theorem dL_fight_352 : decode cL_fight 352 = .ok (.iadd, 1) := by decide +kernel
theorem dL_fight_353 : decode cL_fight 353 = .ok (.invokestatic 21, 3) := by decide +kernel
theorem dL_fight_356 : decode cL_fight 356 = .ok (.istore 9, 2) := by decide +kernel
theorem dL_fight_358 : decode cL_fight 358 = .ok (.iconst 2, 1) := by decide +kernel
theorem dL_fight_359 : decode cL_fight 359 = .ok (.iload 9, 2) := by decide +kernel
theorem dL_fight_361 : decode cL_fight 361 = .ok (.aload_n 3, 1) := by decide +kernel
theorem dL_fight_362 : decode cL_fight 362 = .ok (.iconst 0, 1) := by decide +kernel
theorem dL_fight_363 : decode cL_fight 363 = .ok (.iaload, 1) := by decide +kernel
theorem dL_fight_364 : decode cL_fight 364 = .ok (.invokestatic 25, 3) := by decide +kernel
theorem dL_fight_367 : decode cL_fight 367 = .ok (.imul, 1) := by decide +kernel
theorem dL_fight_368 : decode cL_fight 368 = .ok (.iload 9, 2) := by decide +kernel
theorem dL_fight_370 : decode cL_fight 370 = .ok (.iconst 3, 1) := by decide +kernel
theorem dL_fight_371 : decode cL_fight 371 = .ok (.ishr, 1) := by decide +kernel
theorem dL_fight_372 : decode cL_fight 372 = .ok (.iconst 1, 1) := by decide +kernel
theorem dL_fight_373 : decode cL_fight 373 = .ok (.iand, 1) := by decide +kernel
theorem dL_fight_374 : decode cL_fight 374 = .ok (.iadd, 1) := by decide +kernel
theorem dL_fight_375 : decode cL_fight 375 = .ok (.istore 10, 2) := by decide +kernel
theorem dL_fight_377 : decode cL_fight 377 = .ok (.iload 9, 2) := by decide +kernel
theorem dL_fight_379 : decode cL_fight 379 = .ok (.iconst 4, 1) := by decide +kernel
theorem dL_fight_380 : decode cL_fight 380 = .ok (.ishr, 1) := by decide +kernel
theorem dL_fight_381 : decode cL_fight 381 = .ok (.iconst 3, 1) := by decide +kernel
theorem dL_fight_382 : decode cL_fight 382 = .ok (.invokestatic 25, 3) := by decide +kernel
theorem dL_fight_385 : decode cL_fight 385 = .ok (.istore 11, 2) := by decide +kernel
theorem dL_fight_387 : decode cL_fight 387 = .ok (.iload 9, 2) := by decide +kernel
theorem dL_fight_389 : decode cL_fight 389 = .ok (.bipush 6, 2) := by decide +kernel
theorem dL_fight_391 : decode cL_fight 391 = .ok (.ishr, 1) := by decide +kernel
theorem dL_fight_392 : decode cL_fight 392 = .ok (.bipush 10, 2) := by decide +kernel
theorem dL_fight_394 : decode cL_fight 394 = .ok (.invokestatic 25, 3) := by decide +kernel
theorem dL_fight_397 : decode cL_fight 397 = .ok (.istore 12, 2) := by decide +kernel
theorem dL_fight_399 : decode cL_fight 399 = .ok (.iload 11, 2) := by decide +kernel
theorem dL_fight_401 : decode cL_fight 401 = .ok (.ifCond .ne 50, 3) := by decide +kernel
theorem dL_fight_404 : decode cL_fight 404 = .ok (.aload_n 3, 1) := by decide +kernel
theorem dL_fight_405 : decode cL_fight 405 = .ok (.iconst 5, 1) := by decide +kernel
theorem dL_fight_406 : decode cL_fight 406 = .ok (.iload 10, 2) := by decide +kernel
theorem dL_fight_408 : decode cL_fight 408 = .ok (.iadd, 1) := by decide +kernel
theorem dL_fight_409 : decode cL_fight 409 = .ok (.iload 12, 2) := by decide +kernel
theorem dL_fight_411 : decode cL_fight 411 = .ok (.iastore, 1) := by decide +kernel
theorem dL_fight_412 : decode cL_fight 412 = .ok (.iload 7, 2) := by decide +kernel
theorem dL_fight_414 : decode cL_fight 414 = .ok (.ifCond .eq 31, 3) := by decide +kernel
theorem dL_fight_417 : decode cL_fight 417 = .ok (.aload_n 0, 1) := by decide +kernel
theorem dL_fight_418 : decode cL_fight 418 = .ok (.bipush 102, 2) := by decide +kernel
theorem dL_fight_420 : decode cL_fight 420 = .ok (.iconst 3, 1) := by decide +kernel
theorem dL_fight_421 : decode cL_fight 421 = .ok (.iload 10, 2) := by decide +kernel
theorem dL_fight_423 : decode cL_fight 423 = .ok (.iconst 2, 1) := by decide +kernel
theorem dL_fight_424 : decode cL_fight 424 = .ok (.idiv, 1) := by decide +kernel
theorem dL_fight_425 : decode cL_fight 425 = .ok (.iload 10, 2) := by decide +kernel
theorem dL_fight_427 : decode cL_fight 427 = .ok (.iconst 2, 1) := by decide +kernel
theorem dL_fight_428 : decode cL_fight 428 = .ok (.irem, 1) := by decide +kernel
theorem dL_fight_429 : decode cL_fight 429 = .ok (.iload 12, 2) := by decide +kernel
theorem dL_fight_431 : decode cL_fight 431 = .ok (.iconst 0, 1) := by decide +kernel
theorem dL_fight_432 : decode cL_fight 432 = .ok (.iconst 0, 1) := by decide +kernel
theorem dL_fight_433 : decode cL_fight 433 = .ok (.iconst 0, 1) := by decide +kernel
theorem dL_fight_434 : decode cL_fight 434 = .ok (.iconst 0, 1) := by decide +kernel
theorem dL_fight_435 : decode cL_fight 435 = .ok (.invokestatic 33, 3) := by decide +kernel
theorem dL_fight_438 : decode cL_fight 438 = .ok (.ifCond .eq 7, 3) := by decide +kernel
theorem dL_fight_441 : decode cL_fight 441 = .ok (.iconst 1, 1) := by decide +kernel
theorem dL_fight_442 : decode cL_fight 442 = .ok (.goto 4, 3) := by decide +kernel
theorem dL_fight_445 : decode cL_fight 445 = .ok (.iconst 0, 1) := by decide +kernel
theorem dL_fight_446 : decode cL_fight 446 = .ok (.istore 7, 2) := by decide +kernel
theorem dL_fight_448 : decode cL_fight 448 = .ok (.goto 103, 3) := by decide +kernel
theorem dL_fight_451 : decode cL_fight 451 = .ok (.aload_n 3, 1) := by decide +kernel
theorem dL_fight_452 : decode cL_fight 452 = .ok (.iconst 5, 1) := by decide +kernel
theorem dL_fight_453 : decode cL_fight 453 = .ok (.bipush 10, 2) := by decide +kernel
theorem dL_fight_455 : decode cL_fight 455 = .ok (.iload 11, 2) := by decide +kernel
theorem dL_fight_457 : decode cL_fight 457 = .ok (.imul, 1) := by decide +kernel
theorem dL_fight_458 : decode cL_fight 458 = .ok (.iadd, 1) := by decide +kernel
theorem dL_fight_459 : decode cL_fight 459 = .ok (.iload 10, 2) := by decide +kernel
theorem dL_fight_461 : decode cL_fight 461 = .ok (.iconst 2, 1) := by decide +kernel
theorem dL_fight_462 : decode cL_fight 462 = .ok (.idiv, 1) := by decide +kernel
theorem dL_fight_463 : decode cL_fight 463 = .ok (.iconst 2, 1) := by decide +kernel
theorem dL_fight_464 : decode cL_fight 464 = .ok (.imul, 1) := by decide +kernel
theorem dL_fight_465 : decode cL_fight 465 = .ok (.iadd, 1) := by decide +kernel
theorem dL_fight_466 : decode cL_fight 466 = .ok (.iaload, 1) := by decide +kernel
theorem dL_fight_467 : decode cL_fight 467 = .ok (.aload_n 3, 1) := by decide +kernel
theorem dL_fight_468 : decode cL_fight 468 = .ok (.bipush 6, 2) := by decide +kernel
theorem dL_fight_470 : decode cL_fight 470 = .ok (.bipush 10, 2) := by decide +kernel
theorem dL_fight_472 : decode cL_fight 472 = .ok (.iload 11, 2) := by decide +kernel
theorem dL_fight_474 : decode cL_fight 474 = .ok (.imul, 1) := by decide +kernel
theorem dL_fight_475 : decode cL_fight 475 = .ok (.iadd, 1) := by decide +kernel
theorem dL_fight_476 : decode cL_fight 476 = .ok (.iload 10, 2) := by decide +kernel
theorem dL_fight_478 : decode cL_fight 478 = .ok (.iconst 2, 1) := by decide +kernel
theorem dL_fight_479 : decode cL_fight 479 = .ok (.idiv, 1) := by decide +kernel
theorem dL_fight_480 : decode cL_fight 480 = .ok (.iconst 2, 1) := by decide +kernel
theorem dL_fight_481 : decode cL_fight 481 = .ok (.imul, 1) := by decide +kernel
theorem dL_fight_482 : decode cL_fight 482 = .ok (.iadd, 1) := by decide +kernel
theorem dL_fight_483 : decode cL_fight 483 = .ok (.iaload, 1) := by decide +kernel
theorem dL_fight_484 : decode cL_fight 484 = .ok (.iadd, 1) := by decide +kernel
theorem dL_fight_485 : decode cL_fight 485 = .ok (.iconst 3, 1) := by decide +kernel
theorem dL_fight_486 : decode cL_fight 486 = .ok (.if_icmp .ge 65, 3) := by decide +kernel
theorem dL_fight_489 : decode cL_fight 489 = .ok (.aload_n 3, 1) := by decide +kernel
theorem dL_fight_490 : decode cL_fight 490 = .ok (.iconst 5, 1) := by decide +kernel
theorem dL_fight_491 : decode cL_fight 491 = .ok (.bipush 10, 2) := by decide +kernel
theorem dL_fight_493 : decode cL_fight 493 = .ok (.iload 11, 2) := by decide +kernel
theorem dL_fight_495 : decode cL_fight 495 = .ok (.imul, 1) := by decide +kernel
theorem dL_fight_496 : decode cL_fight 496 = .ok (.iadd, 1) := by decide +kernel
theorem dL_fight_497 : decode cL_fight 497 = .ok (.iload 10, 2) := by decide +kernel
theorem dL_fight_499 : decode cL_fight 499 = .ok (.iadd, 1) := by decide +kernel
theorem dL_fight_500 : decode cL_fight 500 = .ok (.dup2, 1) := by decide +kernel
theorem dL_fight_501 : decode cL_fight 501 = .ok (.iaload, 1) := by decide +kernel
theorem dL_fight_502 : decode cL_fight 502 = .ok (.iconst 1, 1) := by decide +kernel
theorem dL_fight_503 : decode cL_fight 503 = .ok (.iadd, 1) := by decide +kernel
theorem dL_fight_504 : decode cL_fight 504 = .ok (.iastore, 1) := by decide +kernel
theorem dL_fight_505 : decode cL_fight 505 = .ok (.iload 7, 2) := by decide +kernel
theorem dL_fight_507 : decode cL_fight 507 = .ok (.ifCond .eq 41, 3) := by decide +kernel
theorem dL_fight_510 : decode cL_fight 510 = .ok (.aload_n 0, 1) := by decide +kernel
theorem dL_fight_511 : decode cL_fight 511 = .ok (.iload 11, 2) := by decide +kernel
theorem dL_fight_513 : decode cL_fight 513 = .ok (.iconst 1, 1) := by decide +kernel
theorem dL_fight_514 : decode cL_fight 514 = .ok (.if_icmp .ne 8, 3) := by decide +kernel
theorem dL_fight_517 : decode cL_fight 517 = .ok (.bipush 107, 2) := by decide +kernel
theorem dL_fight_519 : decode cL_fight 519 = .ok (.goto 5, 3) := by decide +kernel
theorem dL_fight_522 : decode cL_fight 522 = .ok (.bipush 100, 2) := by decide +kernel
theorem dL_fight_524 : decode cL_fight 524 = .ok (.iconst 2, 1) := by decide +kernel
theorem dL_fight_525 : decode cL_fight 525 = .ok (.iload 10, 2) := by decide +kernel
theorem dL_fight_527 : decode cL_fight 527 = .ok (.iconst 2, 1) := by decide +kernel
theorem dL_fight_528 : decode cL_fight 528 = .ok (.idiv, 1) := by decide +kernel
theorem dL_fight_529 : decode cL_fight 529 = .ok (.iload 10, 2) := by decide +kernel
theorem dL_fight_531 : decode cL_fight 531 = .ok (.iconst 2, 1) := by decide +kernel
theorem dL_fight_532 : decode cL_fight 532 = .ok (.irem, 1) := by decide +kernel
theorem dL_fight_533 : decode cL_fight 533 = .ok (.iconst 0, 1) := by decide +kernel
theorem dL_fight_534 : decode cL_fight 534 = .ok (.iconst 0, 1) := by decide +kernel
theorem dL_fight_535 : decode cL_fight 535 = .ok (.iconst 0, 1) := by decide +kernel
theorem dL_fight_536 : decode cL_fight 536 = .ok (.iconst 0, 1) := by decide +kernel
theorem dL_fight_537 : decode cL_fight 537 = .ok (.iconst 0, 1) := by decide +kernel
theorem dL_fight_538 : decode cL_fight 538 = .ok (.invokestatic 33, 3) := by decide +kernel
theorem dL_fight_541 : decode cL_fight 541 = .ok (.ifCond .eq 7, 3) := by decide +kernel
theorem dL_fight_544 : decode cL_fight 544 = .ok (.iconst 1, 1) := by decide +kernel
theorem dL_fight_545 : decode cL_fight 545 = .ok (.goto 4, 3) := by decide +kernel
theorem dL_fight_548 : decode cL_fight 548 = .ok (.iconst 0, 1) := by decide +kernel
theorem dL_fight_549 : decode cL_fight 549 = .ok (.istore 7, 2) := by decide +kernel
theorem dL_fight_551 : decode cL_fight 551 = .ok (.iinc 8 1, 3) := by decide +kernel
theorem dL_fight_554 : decode cL_fight 554 = .ok (.goto (-216), 3) := by decide +kernel
theorem dL_fight_557 : decode cL_fight 557 = .ok (.iconst 0, 1) := by decide +kernel
theorem dL_fight_558 : decode cL_fight 558 = .ok (.istore 8, 2) := by decide +kernel
theorem dL_fight_560 : decode cL_fight 560 = .ok (.iload 8, 2) := by decide +kernel
theorem dL_fight_562 : decode cL_fight 562 = .ok (.aload_n 3, 1) := by decide +kernel
theorem dL_fight_563 : decode cL_fight 563 = .ok (.iconst 1, 1) := by decide +kernel
theorem dL_fight_564 : decode cL_fight 564 = .ok (.iaload, 1) := by decide +kernel
theorem dL_fight_565 : decode cL_fight 565 = .ok (.if_icmp .ge 278, 3) := by decide +kernel
theorem dL_fight_568 : decode cL_fight 568 = .ok (.aload_n 1, 1) := by decide +kernel
theorem dL_fight_569 : decode cL_fight 569 = .ok (.iload_n 2, 1) := by decide +kernel
theorem dL_fight_570 : decode cL_fight 570 = .ok (.bipush 19, 2) := by decide +kernel
theorem dL_fight_572 : decode cL_fight 572 = .ok (.iadd, 1) := by decide +kernel
theorem dL_fight_573 : decode cL_fight 573 = .ok (.iload 8, 2) := by decide +kernel
theorem dL_fight_575 : decode cL_fight 575 = .ok (.iadd, 1) := by decide +kernel
theorem dL_fight_576 : decode cL_fight 576 = .ok (.invokestatic 21, 3) := by decide +kernel
theorem dL_fight_579 : decode cL_fight 579 = .ok (.istore 9, 2) := by decide +kernel
theorem dL_fight_581 : decode cL_fight 581 = .ok (.aload 5, 2) := by decide +kernel
theorem dL_fight_583 : decode cL_fight 583 = .ok (.bipush 7, 2) := by decide +kernel
theorem dL_fight_585 : decode cL_fight 585 = .ok (.iload 8, 2) := by decide +kernel
theorem dL_fight_587 : decode cL_fight 587 = .ok (.imul, 1) := by decide +kernel
theorem dL_fight_588 : decode cL_fight 588 = .ok (.iload 9, 2) := by decide +kernel
theorem dL_fight_590 : decode cL_fight 590 = .ok (.bipush 12, 2) := by decide +kernel
theorem dL_fight_592 : decode cL_fight 592 = .ok (.invokestatic 25, 3) := by decide +kernel
theorem dL_fight_595 : decode cL_fight 595 = .ok (.iastore, 1) := by decide +kernel
theorem dL_fight_596 : decode cL_fight 596 = .ok (.aload 5, 2) := by decide +kernel
theorem dL_fight_598 : decode cL_fight 598 = .ok (.bipush 7, 2) := by decide +kernel
theorem dL_fight_600 : decode cL_fight 600 = .ok (.iload 8, 2) := by decide +kernel
theorem dL_fight_602 : decode cL_fight 602 = .ok (.imul, 1) := by decide +kernel
theorem dL_fight_603 : decode cL_fight 603 = .ok (.iconst 1, 1) := by decide +kernel
theorem dL_fight_604 : decode cL_fight 604 = .ok (.iadd, 1) := by decide +kernel
theorem dL_fight_605 : decode cL_fight 605 = .ok (.iload 9, 2) := by decide +kernel
theorem dL_fight_607 : decode cL_fight 607 = .ok (.iconst 4, 1) := by decide +kernel
theorem dL_fight_608 : decode cL_fight 608 = .ok (.ishr, 1) := by decide +kernel
theorem dL_fight_609 : decode cL_fight 609 = .ok (.bipush 10, 2) := by decide +kernel
theorem dL_fight_611 : decode cL_fight 611 = .ok (.invokestatic 25, 3) := by decide +kernel
theorem dL_fight_614 : decode cL_fight 614 = .ok (.iastore, 1) := by decide +kernel
theorem dL_fight_615 : decode cL_fight 615 = .ok (.aload 5, 2) := by decide +kernel
theorem dL_fight_617 : decode cL_fight 617 = .ok (.bipush 7, 2) := by decide +kernel
theorem dL_fight_619 : decode cL_fight 619 = .ok (.iload 8, 2) := by decide +kernel
theorem dL_fight_621 : decode cL_fight 621 = .ok (.imul, 1) := by decide +kernel
theorem dL_fight_622 : decode cL_fight 622 = .ok (.iconst 2, 1) := by decide +kernel
theorem dL_fight_623 : decode cL_fight 623 = .ok (.iadd, 1) := by decide +kernel
theorem dL_fight_624 : decode cL_fight 624 = .ok (.iload 9, 2) := by decide +kernel
theorem dL_fight_626 : decode cL_fight 626 = .ok (.bipush 8, 2) := by decide +kernel
theorem dL_fight_628 : decode cL_fight 628 = .ok (.ishr, 1) := by decide +kernel
theorem dL_fight_629 : decode cL_fight 629 = .ok (.iconst 5, 1) := by decide +kernel
theorem dL_fight_630 : decode cL_fight 630 = .ok (.invokestatic 25, 3) := by decide +kernel
theorem dL_fight_633 : decode cL_fight 633 = .ok (.iastore, 1) := by decide +kernel
theorem dL_fight_634 : decode cL_fight 634 = .ok (.aload 5, 2) := by decide +kernel
theorem dL_fight_636 : decode cL_fight 636 = .ok (.bipush 7, 2) := by decide +kernel
theorem dL_fight_638 : decode cL_fight 638 = .ok (.iload 8, 2) := by decide +kernel
theorem dL_fight_640 : decode cL_fight 640 = .ok (.imul, 1) := by decide +kernel
theorem dL_fight_641 : decode cL_fight 641 = .ok (.iconst 3, 1) := by decide +kernel
theorem dL_fight_642 : decode cL_fight 642 = .ok (.iadd, 1) := by decide +kernel
theorem dL_fight_643 : decode cL_fight 643 = .ok (.iload 9, 2) := by decide +kernel
theorem dL_fight_645 : decode cL_fight 645 = .ok (.bipush 11, 2) := by decide +kernel
theorem dL_fight_647 : decode cL_fight 647 = .ok (.ishr, 1) := by decide +kernel
theorem dL_fight_648 : decode cL_fight 648 = .ok (.iconst 1, 1) := by decide +kernel
theorem dL_fight_649 : decode cL_fight 649 = .ok (.iand, 1) := by decide +kernel
theorem dL_fight_650 : decode cL_fight 650 = .ok (.ifCond .ne 8, 3) := by decide +kernel
theorem dL_fight_653 : decode cL_fight 653 = .ok (.bipush 20, 2) := by decide +kernel
theorem dL_fight_655 : decode cL_fight 655 = .ok (.goto 13, 3) := by decide +kernel
theorem dL_fight_658 : decode cL_fight 658 = .ok (.iload 9, 2) := by decide +kernel
theorem dL_fight_660 : decode cL_fight 660 = .ok (.bipush 12, 2) := by decide +kernel
theorem dL_fight_662 : decode cL_fight 662 = .ok (.ishr, 1) := by decide +kernel
theorem dL_fight_663 : decode cL_fight 663 = .ok (.bipush 41, 2) := by decide +kernel
theorem dL_fight_665 : decode cL_fight 665 = .ok (.invokestatic 25, 3) := by decide +kernel
theorem dL_fight_668 : decode cL_fight 668 = .ok (.iastore, 1) := by decide +kernel
theorem dL_fight_669 : decode cL_fight 669 = .ok (.aload 5, 2) := by decide +kernel
theorem dL_fight_671 : decode cL_fight 671 = .ok (.bipush 7, 2) := by decide +kernel
theorem dL_fight_673 : decode cL_fight 673 = .ok (.iload 8, 2) := by decide +kernel
theorem dL_fight_675 : decode cL_fight 675 = .ok (.imul, 1) := by decide +kernel
theorem dL_fight_676 : decode cL_fight 676 = .ok (.iconst 4, 1) := by decide +kernel
theorem dL_fight_677 : decode cL_fight 677 = .ok (.iadd, 1) := by decide +kernel
theorem dL_fight_678 : decode cL_fight 678 = .ok (.iconst 1, 1) := by decide +kernel
theorem dL_fight_679 : decode cL_fight 679 = .ok (.iload 9, 2) := by decide +kernel
theorem dL_fight_681 : decode cL_fight 681 = .ok (.bipush 18, 2) := by decide +kernel
theorem dL_fight_683 : decode cL_fight 683 = .ok (.ishr, 1) := by decide +kernel
theorem dL_fight_684 : decode cL_fight 684 = .ok (.iconst 5, 1) := by decide +kernel
theorem dL_fight_685 : decode cL_fight 685 = .ok (.invokestatic 25, 3) := by decide +kernel
theorem dL_fight_688 : decode cL_fight 688 = .ok (.iadd, 1) := by decide +kernel
theorem dL_fight_689 : decode cL_fight 689 = .ok (.iastore, 1) := by decide +kernel
theorem dL_fight_690 : decode cL_fight 690 = .ok (.aload 5, 2) := by decide +kernel
theorem dL_fight_692 : decode cL_fight 692 = .ok (.bipush 7, 2) := by decide +kernel
theorem dL_fight_694 : decode cL_fight 694 = .ok (.iload 8, 2) := by decide +kernel
theorem dL_fight_696 : decode cL_fight 696 = .ok (.imul, 1) := by decide +kernel
theorem dL_fight_697 : decode cL_fight 697 = .ok (.iconst 5, 1) := by decide +kernel
theorem dL_fight_698 : decode cL_fight 698 = .ok (.iadd, 1) := by decide +kernel
theorem dL_fight_699 : decode cL_fight 699 = .ok (.iload 9, 2) := by decide +kernel
theorem dL_fight_701 : decode cL_fight 701 = .ok (.bipush 21, 2) := by decide +kernel
theorem dL_fight_703 : decode cL_fight 703 = .ok (.ishr, 1) := by decide +kernel
theorem dL_fight_704 : decode cL_fight 704 = .ok (.bipush 6, 2) := by decide +kernel
theorem dL_fight_706 : decode cL_fight 706 = .ok (.invokestatic 25, 3) := by decide +kernel
theorem dL_fight_709 : decode cL_fight 709 = .ok (.iastore, 1) := by decide +kernel
theorem dL_fight_710 : decode cL_fight 710 = .ok (.aload 5, 2) := by decide +kernel
theorem dL_fight_712 : decode cL_fight 712 = .ok (.bipush 7, 2) := by decide +kernel
theorem dL_fight_714 : decode cL_fight 714 = .ok (.iload 8, 2) := by decide +kernel
theorem dL_fight_716 : decode cL_fight 716 = .ok (.imul, 1) := by decide +kernel
theorem dL_fight_717 : decode cL_fight 717 = .ok (.bipush 6, 2) := by decide +kernel
theorem dL_fight_719 : decode cL_fight 719 = .ok (.iadd, 1) := by decide +kernel
theorem dL_fight_720 : decode cL_fight 720 = .ok (.iload 9, 2) := by decide +kernel
theorem dL_fight_722 : decode cL_fight 722 = .ok (.bipush 24, 2) := by decide +kernel
theorem dL_fight_724 : decode cL_fight 724 = .ok (.ishr, 1) := by decide +kernel
theorem dL_fight_725 : decode cL_fight 725 = .ok (.iconst 1, 1) := by decide +kernel
theorem dL_fight_726 : decode cL_fight 726 = .ok (.iand, 1) := by decide +kernel
theorem dL_fight_727 : decode cL_fight 727 = .ok (.ifCond .ne 7, 3) := by decide +kernel
theorem dL_fight_730 : decode cL_fight 730 = .ok (.iconst 0, 1) := by decide +kernel
theorem dL_fight_731 : decode cL_fight 731 = .ok (.goto 13, 3) := by decide +kernel
theorem dL_fight_734 : decode cL_fight 734 = .ok (.iload 9, 2) := by decide +kernel
theorem dL_fight_736 : decode cL_fight 736 = .ok (.bipush 25, 2) := by decide +kernel
theorem dL_fight_738 : decode cL_fight 738 = .ok (.ishr, 1) := by decide +kernel
theorem dL_fight_739 : decode cL_fight 739 = .ok (.bipush 30, 2) := by decide +kernel
theorem dL_fight_741 : decode cL_fight 741 = .ok (.invokestatic 25, 3) := by decide +kernel
theorem dL_fight_744 : decode cL_fight 744 = .ok (.iastore, 1) := by decide +kernel
theorem dL_fight_745 : decode cL_fight 745 = .ok (.iload 7, 2) := by decide +kernel
theorem dL_fight_747 : decode cL_fight 747 = .ok (.ifCond .eq 87, 3) := by decide +kernel
theorem dL_fight_750 : decode cL_fight 750 = .ok (.aload_n 0, 1) := by decide +kernel
theorem dL_fight_751 : decode cL_fight 751 = .ok (.bipush 106, 2) := by decide +kernel
theorem dL_fight_753 : decode cL_fight 753 = .ok (.bipush 7, 2) := by decide +kernel
theorem dL_fight_755 : decode cL_fight 755 = .ok (.aload 5, 2) := by decide +kernel
theorem dL_fight_757 : decode cL_fight 757 = .ok (.bipush 7, 2) := by decide +kernel
theorem dL_fight_759 : decode cL_fight 759 = .ok (.iload 8, 2) := by decide +kernel
theorem dL_fight_761 : decode cL_fight 761 = .ok (.imul, 1) := by decide +kernel
theorem dL_fight_762 : decode cL_fight 762 = .ok (.iaload, 1) := by decide +kernel
theorem dL_fight_763 : decode cL_fight 763 = .ok (.aload 5, 2) := by decide +kernel
theorem dL_fight_765 : decode cL_fight 765 = .ok (.bipush 7, 2) := by decide +kernel
theorem dL_fight_767 : decode cL_fight 767 = .ok (.iload 8, 2) := by decide +kernel
theorem dL_fight_769 : decode cL_fight 769 = .ok (.imul, 1) := by decide +kernel
theorem dL_fight_770 : decode cL_fight 770 = .ok (.iconst 1, 1) := by decide +kernel
theorem dL_fight_771 : decode cL_fight 771 = .ok (.iadd, 1) := by decide +kernel
theorem dL_fight_772 : decode cL_fight 772 = .ok (.iaload, 1) := by decide +kernel
