theorem inX0 : ∀ w ∈ wsX00, w ∈ lw_tbl := fun w h => wsL_law_in w (inlX0 w h)
theorem inlX1 : ∀ w ∈ wsX10, w ∈ wsL_law := fun _ h => List.mem_append_left _ (List.mem_append_left _ (List.mem_append_left _ (List.mem_append_left _ (List.mem_append_left _ (List.mem_append_left _ (List.mem_append_left _ (List.mem_append_right _ h)))))))
theorem inX1 : ∀ w ∈ wsX10, w ∈ lw_tbl := fun w h => wsL_law_in w (inlX1 w h)
theorem inlX2 : ∀ w ∈ wsX20, w ∈ wsL_law := fun _ h => List.mem_append_left _ (List.mem_append_left _ (List.mem_append_left _ (List.mem_append_left _ (List.mem_append_left _ (List.mem_append_left _ (List.mem_append_right _ h))))))
theorem inX2 : ∀ w ∈ wsX20, w ∈ lw_tbl := fun w h => wsL_law_in w (inlX2 w h)
theorem inlX3 : ∀ w ∈ wsX30, w ∈ wsL_law := fun _ h => List.mem_append_left _ (List.mem_append_left _ (List.mem_append_left _ (List.mem_append_left _ (List.mem_append_left _ (List.mem_append_left _ (List.mem_append_left _ (List.mem_append_left _ (List.mem_append_right _ h))))))))
theorem inX3 : ∀ w ∈ wsX30, w ∈ lw_tbl := fun w h => wsL_law_in w (inlX3 w h)
theorem inlX4 : ∀ w ∈ wsX40, w ∈ wsL_law := fun _ h => List.mem_append_left _ (List.mem_append_right _ h)
theorem inX4 : ∀ w ∈ wsX40, w ∈ lw_tbl := fun w h => wsL_law_in w (inlX4 w h)
theorem inlX5 : ∀ w ∈ wsX50, w ∈ wsL_law := fun _ h => List.mem_append_left _ (List.mem_append_left _ (List.mem_append_left _ (List.mem_append_left _ (List.mem_append_right _ h))))
theorem inX5 : ∀ w ∈ wsX50, w ∈ lw_tbl := fun w h => wsL_law_in w (inlX5 w h)
theorem inlX6 : ∀ w ∈ wsX60, w ∈ wsL_law := fun _ h => List.mem_append_left _ (List.mem_append_left _ (List.mem_append_left _ (List.mem_append_left _ (List.mem_append_left _ (List.mem_append_left _ (List.mem_append_left _ (List.mem_append_left _ (List.mem_append_left _ (List.mem_append_right _ h)))))))))
theorem inX6 : ∀ w ∈ wsX60, w ∈ lw_tbl := fun w h => wsL_law_in w (inlX6 w h)
theorem inlX7 : ∀ w ∈ wsX70, w ∈ wsL_law := fun _ h => List.mem_append_left _ (List.mem_append_left _ (List.mem_append_left _ (List.mem_append_left _ (List.mem_append_left _ (List.mem_append_right _ h)))))
theorem inX7 : ∀ w ∈ wsX70, w ∈ lw_tbl := fun w h => wsL_law_in w (inlX7 w h)
theorem inlX8 : ∀ w ∈ wsX80, w ∈ wsL_law := fun _ h => List.mem_append_left _ (List.mem_append_left _ (List.mem_append_left _ (List.mem_append_left _ (List.mem_append_left _ (List.mem_append_left _ (List.mem_append_left _ (List.mem_append_left _ (List.mem_append_left _ (List.mem_append_left _ (List.mem_append_right _ h))))))))))
theorem inX8 : ∀ w ∈ wsX80, w ∈ lw_tbl := fun w h => wsL_law_in w (inlX8 w h)
theorem inlX9 : ∀ w ∈ wsX90, w ∈ wsL_law := fun _ h => List.mem_append_left _ (List.mem_append_left _ (List.mem_append_right _ h))
theorem inX9 : ∀ w ∈ wsX90, w ∈ lw_tbl := fun w h => wsL_law_in w (inlX9 w h)
theorem inlX10 : ∀ w ∈ wsX100, w ∈ wsL_law := fun _ h => List.mem_append_left _ (List.mem_append_left _ (List.mem_append_left _ (List.mem_append_left _ (List.mem_append_left _ (List.mem_append_left _ (List.mem_append_left _ (List.mem_append_left _ (List.mem_append_left _ (List.mem_append_left _ (List.mem_append_left _ (List.mem_append_right _ h)))))))))))
theorem inX10 : ∀ w ∈ wsX100, w ∈ lw_tbl := fun w h => wsL_law_in w (inlX10 w h)
theorem inX11 : ∀ w ∈ wsX110, w ∈ lw_tbl := by decide +kernel
theorem inJx145de : ∀ w ∈ wsJx145de0, w ∈ lw_tbl := by decide +kernel
theorem inJx9f9b0 : ∀ w ∈ wsJx9f9b00, w ∈ lw_tbl := by decide +kernel
theorem inJ11 : ∀ w ∈ wsJ110, w ∈ lw_tbl := by decide +kernel
theorem inJxb160c : ∀ w ∈ wsJxb160c0, w ∈ lw_tbl := by decide +kernel
theorem inJ6 : ∀ w ∈ wsJ60, w ∈ lw_tbl := by decide +kernel
theorem inJ9 : ∀ w ∈ wsJ90, w ∈ lw_tbl := by decide +kernel
theorem inJ0 : ∀ w ∈ wsJ00, w ∈ lw_tbl := by decide +kernel
theorem inJ1 : ∀ w ∈ wsJ10, w ∈ lw_tbl := by decide +kernel
theorem inJ2 : ∀ w ∈ wsJ20, w ∈ lw_tbl := by decide +kernel
theorem inJ10 : ∀ w ∈ wsJ100, w ∈ lw_tbl := by decide +kernel
theorem inJxfd54e : ∀ w ∈ wsJxfd54e0, w ∈ lw_tbl := by decide +kernel
theorem inJx3cf43 : ∀ w ∈ wsJx3cf430, w ∈ lw_tbl := by decide +kernel
theorem inJ7 : ∀ w ∈ wsJ70, w ∈ lw_tbl := by decide +kernel
theorem inJ3 : ∀ w ∈ wsJ30, w ∈ lw_tbl := by decide +kernel
theorem dX0_init_0 : decode cX0_init 0 = .ok (.aload_n 0, 1) := by decide +kernel
theorem dX0_init_1 : decode cX0_init 1 = .ok (.invokespecial 3, 3) := by decide +kernel
theorem dX0_init_4 : decode cX0_init 4 = .ok (.aload_n 0, 1) := by decide +kernel
theorem dX0_init_5 : decode cX0_init 5 = .ok (.bipush 40, 2) := by decide +kernel
theorem dX0_init_7 : decode cX0_init 7 = .ok (.newarray .int, 2) := by decide +kernel
theorem dX0_init_9 : decode cX0_init 9 = .ok (.putfield 9, 3) := by decide +kernel
theorem dX0_init_12 : decode cX0_init 12 = .ok (.aload_n 0, 1) := by decide +kernel
theorem dX0_init_13 : decode cX0_init 13 = .ok (.iconst 0, 1) := by decide +kernel
theorem dX0_init_14 : decode cX0_init 14 = .ok (.putfield 15, 3) := by decide +kernel
theorem dX0_init_17 : decode cX0_init 17 = .ok (.aload_n 0, 1) := by decide +kernel
theorem dX0_init_18 : decode cX0_init 18 = .ok (.bipush 8, 2) := by decide +kernel
theorem dX0_init_20 : decode cX0_init 20 = .ok (.newarray .int, 2) := by decide +kernel
theorem dX0_init_22 : decode cX0_init 22 = .ok (.putfield 19, 3) := by decide +kernel
theorem dX0_init_25 : decode cX0_init 25 = .ok (.aload_n 0, 1) := by decide +kernel
theorem dX0_init_26 : decode cX0_init 26 = .ok (.aload_n 1, 1) := by decide +kernel
theorem dX0_init_27 : decode cX0_init 27 = .ok (.putfield 22, 3) := by decide +kernel
theorem dX0_init_30 : decode cX0_init 30 = .ok (.aload_n 0, 1) := by decide +kernel
theorem dX0_init_31 : decode cX0_init 31 = .ok (.aload_n 2, 1) := by decide +kernel
theorem dX0_init_32 : decode cX0_init 32 = .ok (.putfield 26, 3) := by decide +kernel
theorem dX0_init_35 : decode cX0_init 35 = .ok (.return_, 1) := by decide +kernel
set_option maxRecDepth 20000 in
theorem ggX0_tellOf_X0_pointsOf : GoodIn wsX0_tellOf wsX0_pointsOf := goodIn_r _ [10, 11, 12, 13, 14, 15, 9, 16, 1, 17, 18, 19, 20, 21, 22, 23, 24, 25, 26, 27, 28, 29, 30, 31, 32, 33, 34, 35, 36, 37, 38, 39, 40, 41, 42, 43, 44, 45, 46, 47, 48, 49, 50, 51, 52, 53, 54, 55, 56, 57, 58, 59, 60, 61, 62, 63, 64, 65, 66, 67, 68, 69, 70, 71, 72, 73, 74, 75, 76, 77, 78] (by decide +kernel) (by decide +kernel)
set_option maxRecDepth 20000 in
theorem gX0_tellOf_X0_pointsOf : GoodIn wsX0_tellOf (wsV RX0 30 RX0 yX0_pointsOf wsX0_pointsOf) := goodIn_app (goodIn_of _ (by decide +kernel)) ggX0_tellOf_X0_pointsOf
theorem dX0_tellOf_0 : decode cX0_tellOf 0 = .ok (.iload 4, 2) := by decide +kernel
theorem dX0_tellOf_2 : decode cX0_tellOf 2 = .ok (.iconst 2, 1) := by decide +kernel
theorem dX0_tellOf_3 : decode cX0_tellOf 3 = .ok (.if_icmp .ge 13, 3) := by decide +kernel
theorem dX0_tellOf_6 : decode cX0_tellOf 6 = .ok (.aload_n 0, 1) := by decide +kernel
theorem dX0_tellOf_7 : decode cX0_tellOf 7 = .ok (.iload_n 1, 1) := by decide +kernel
theorem dX0_tellOf_8 : decode cX0_tellOf 8 = .ok (.iload 4, 2) := by decide +kernel
theorem dX0_tellOf_10 : decode cX0_tellOf 10 = .ok (.iload_n 2, 1) := by decide +kernel
theorem dX0_tellOf_11 : decode cX0_tellOf 11 = .ok (.iload_n 3, 1) := by decide +kernel
theorem dX0_tellOf_12 : decode cX0_tellOf 12 = .ok (.invokevirtual 30, 3) := by decide +kernel
theorem dX0_tellOf_15 : decode cX0_tellOf 15 = .ok (.ireturn, 1) := by decide +kernel
theorem dX0_tellOf_16 : decode cX0_tellOf 16 = .ok (.aload_n 0, 1) := by decide +kernel
theorem dX0_tellOf_17 : decode cX0_tellOf 17 = .ok (.iload_n 1, 1) := by decide +kernel
theorem dX0_tellOf_18 : decode cX0_tellOf 18 = .ok (.iconst 0, 1) := by decide +kernel
theorem dX0_tellOf_19 : decode cX0_tellOf 19 = .ok (.iload_n 2, 1) := by decide +kernel
theorem dX0_tellOf_20 : decode cX0_tellOf 20 = .ok (.iload_n 3, 1) := by decide +kernel
theorem dX0_tellOf_21 : decode cX0_tellOf 21 = .ok (.invokevirtual 30, 3) := by decide +kernel
theorem dX0_tellOf_24 : decode cX0_tellOf 24 = .ok (.istore 5, 2) := by decide +kernel
theorem dX0_tellOf_26 : decode cX0_tellOf 26 = .ok (.aload_n 0, 1) := by decide +kernel
theorem dX0_tellOf_27 : decode cX0_tellOf 27 = .ok (.getfield 15, 3) := by decide +kernel
theorem dX0_tellOf_30 : decode cX0_tellOf 30 = .ok (.istore 6, 2) := by decide +kernel
theorem dX0_tellOf_32 : decode cX0_tellOf 32 = .ok (.iload 5, 2) := by decide +kernel
theorem dX0_tellOf_34 : decode cX0_tellOf 34 = .ok (.aload_n 0, 1) := by decide +kernel
theorem dX0_tellOf_35 : decode cX0_tellOf 35 = .ok (.iload_n 1, 1) := by decide +kernel
theorem dX0_tellOf_36 : decode cX0_tellOf 36 = .ok (.iconst 1, 1) := by decide +kernel
theorem dX0_tellOf_37 : decode cX0_tellOf 37 = .ok (.iload_n 2, 1) := by decide +kernel
theorem dX0_tellOf_38 : decode cX0_tellOf 38 = .ok (.iload_n 3, 1) := by decide +kernel
theorem dX0_tellOf_39 : decode cX0_tellOf 39 = .ok (.invokevirtual 30, 3) := by decide +kernel
theorem dX0_tellOf_42 : decode cX0_tellOf 42 = .ok (.iadd, 1) := by decide +kernel
theorem dX0_tellOf_43 : decode cX0_tellOf 43 = .ok (.istore 5, 2) := by decide +kernel
theorem dX0_tellOf_45 : decode cX0_tellOf 45 = .ok (.iload 6, 2) := by decide +kernel
theorem dX0_tellOf_47 : decode cX0_tellOf 47 = .ok (.aload_n 0, 1) := by decide +kernel
theorem dX0_tellOf_48 : decode cX0_tellOf 48 = .ok (.getfield 15, 3) := by decide +kernel
theorem dX0_tellOf_51 : decode cX0_tellOf 51 = .ok (.iadd, 1) := by decide +kernel
theorem dX0_tellOf_52 : decode cX0_tellOf 52 = .ok (.istore 6, 2) := by decide +kernel
theorem dX0_tellOf_54 : decode cX0_tellOf 54 = .ok (.iconst 0, 1) := by decide +kernel
theorem dX0_tellOf_55 : decode cX0_tellOf 55 = .ok (.iload 4, 2) := by decide +kernel
theorem dX0_tellOf_57 : decode cX0_tellOf 57 = .ok (.iconst 2, 1) := by decide +kernel
theorem dX0_tellOf_58 : decode cX0_tellOf 58 = .ok (.if_icmp .ne 11, 3) := by decide +kernel
theorem dX0_tellOf_61 : decode cX0_tellOf 61 = .ok (.iload 5, 2) := by decide +kernel
theorem dX0_tellOf_63 : decode cX0_tellOf 63 = .ok (.iload 6, 2) := by decide +kernel
theorem dX0_tellOf_65 : decode cX0_tellOf 65 = .ok (.isub, 1) := by decide +kernel
theorem dX0_tellOf_66 : decode cX0_tellOf 66 = .ok (.goto 8, 3) := by decide +kernel
theorem dX0_tellOf_69 : decode cX0_tellOf 69 = .ok (.iload 6, 2) := by decide +kernel
theorem dX0_tellOf_71 : decode cX0_tellOf 71 = .ok (.iload 5, 2) := by decide +kernel
theorem dX0_tellOf_73 : decode cX0_tellOf 73 = .ok (.isub, 1) := by decide +kernel
theorem dX0_tellOf_74 : decode cX0_tellOf 74 = .ok (.invokestatic 34, 3) := by decide +kernel
theorem dX0_tellOf_77 : decode cX0_tellOf 77 = .ok (.ireturn, 1) := by decide +kernel
set_option maxRecDepth 20000 in
theorem ggX0_pointsOf_X0_fillRow : GoodIn wsX0_pointsOf wsX0_fillRow := goodIn_r _ [7, 8, 1, 9, 10, 11, 12, 13, 14, 15, 16, 17, 6, 18, 19, 50, 51, 52, 53, 54, 55, 56, 57, 58, 59, 60, 61, 62, 63, 64, 65, 66, 67] (by decide +kernel) (by decide +kernel)
set_option maxRecDepth 20000 in
theorem gX0_pointsOf_X0_fillRow : GoodIn wsX0_pointsOf (wsV RX0 40 RX0 yX0_fillRow wsX0_fillRow) := goodIn_app (goodIn_of _ (by decide +kernel)) ggX0_pointsOf_X0_fillRow
set_option maxRecDepth 20000 in
theorem ggX0_pointsOf_X0_seenFrom : GoodIn wsX0_pointsOf wsX0_seenFrom := goodIn_r _ [23, 8, 1, 19, 24, 25, 26, 12, 27, 28, 50, 51, 52, 53, 54, 55, 56, 57, 58, 59, 60, 61, 62, 63, 64, 65, 66, 67] (by decide +kernel) (by decide +kernel)
set_option maxRecDepth 20000 in
theorem gX0_pointsOf_X0_seenFrom : GoodIn wsX0_pointsOf (wsV RX0 47 RX0 yX0_seenFrom wsX0_seenFrom) := goodIn_app (goodIn_of _ (by decide +kernel)) ggX0_pointsOf_X0_seenFrom
set_option maxRecDepth 20000 in
theorem ggX0_pointsOf_X0_firstPresser : GoodIn wsX0_pointsOf wsX0_firstPresser := goodIn_r _ [32, 1, 33, 34, 35, 6, 36, 2, 8, 19, 37, 9, 10, 11, 12, 13, 14, 50, 51, 52, 53, 54, 55, 56, 57, 58, 59, 60, 61, 62, 63, 64, 65, 66, 67, 68, 69, 70] (by decide +kernel) (by decide +kernel)
set_option maxRecDepth 20000 in
theorem gX0_pointsOf_X0_firstPresser : GoodIn wsX0_pointsOf (wsV RX0 50 RX0 yX0_firstPresser wsX0_firstPresser) := goodIn_app (goodIn_of _ (by decide +kernel)) ggX0_pointsOf_X0_firstPresser
set_option maxRecDepth 20000 in
theorem ggX0_pointsOf_X0_secondOf : GoodIn wsX0_pointsOf wsX0_secondOf := goodIn_r _ [36, 2, 8, 1, 19, 37, 9, 10, 11, 12, 13, 14, 50, 51, 52, 53, 54, 68, 69, 70, 55, 56, 57, 58, 59, 60, 61, 62, 63, 64, 65, 66, 67] (by decide +kernel) (by decide +kernel)
set_option maxRecDepth 20000 in
theorem gX0_pointsOf_X0_secondOf : GoodIn wsX0_pointsOf (wsV RX0 54 RX0 yX0_secondOf wsX0_secondOf) := goodIn_app (goodIn_of _ (by decide +kernel)) ggX0_pointsOf_X0_secondOf
set_option maxRecDepth 20000 in
theorem ggX0_pointsOf_X0_pressersUntil : GoodIn wsX0_pointsOf wsX0_pressersUntil := goodIn_r _ [41, 1, 33, 34, 35, 6, 36, 2, 8, 19, 37, 9, 10, 11, 12, 13, 14, 50, 51, 52, 53, 54, 55, 56, 57, 58, 59, 60, 61, 62, 63, 64, 65, 66, 67, 68, 69, 70] (by decide +kernel) (by decide +kernel)
set_option maxRecDepth 20000 in
theorem gX0_pointsOf_X0_pressersUntil : GoodIn wsX0_pointsOf (wsV RX0 58 RX0 yX0_pressersUntil wsX0_pressersUntil) := goodIn_app (goodIn_of _ (by decide +kernel)) ggX0_pointsOf_X0_pressersUntil
set_option maxRecDepth 20000 in
theorem ggX0_pointsOf_X0_useUntil : GoodIn wsX0_pointsOf wsX0_useUntil := goodIn_r _ [45, 1, 33, 34, 35, 6, 36, 2, 8, 19, 37, 9, 10, 11, 12, 13, 14, 46, 47, 48, 49, 20, 21, 22, 23, 24, 25, 26, 27, 28, 50, 51, 52, 53, 54, 55, 56, 57, 58, 59, 60, 61, 62, 63, 64, 65, 66, 67, 68, 69, 70] (by decide +kernel) (by decide +kernel)
set_option maxRecDepth 20000 in
theorem gX0_pointsOf_X0_useUntil : GoodIn wsX0_pointsOf (wsV RX0 61 RX0 yX0_useUntil wsX0_useUntil) := goodIn_app (goodIn_of _ (by decide +kernel)) ggX0_pointsOf_X0_useUntil
set_option maxRecDepth 20000 in
theorem ggX0_pointsOf_X0_useOne : GoodIn wsX0_pointsOf wsX0_useOne := goodIn_r _ [49, 2, 20, 21, 22, 6, 23, 8, 1, 19, 24, 25, 26, 12, 27, 28, 50, 51, 52, 53, 54, 55, 56, 57, 58, 59, 60, 61, 62, 63, 64, 65, 66, 67] (by decide +kernel) (by decide +kernel)
set_option maxRecDepth 20000 in
theorem gX0_pointsOf_X0_useOne : GoodIn wsX0_pointsOf (wsV RX0 65 RX0 yX0_useOne wsX0_useOne) := goodIn_app (goodIn_of _ (by decide +kernel)) ggX0_pointsOf_X0_useOne
theorem dX0_pointsOf_0 : decode cX0_pointsOf 0 = .ok (.aload_n 0, 1) := by decide +kernel
theorem dX0_pointsOf_1 : decode cX0_pointsOf 1 = .ok (.iload_n 1, 1) := by decide +kernel
theorem dX0_pointsOf_2 : decode cX0_pointsOf 2 = .ok (.iload_n 2, 1) := by decide +kernel
theorem dX0_pointsOf_3 : decode cX0_pointsOf 3 = .ok (.invokevirtual 40, 3) := by decide +kernel
theorem dX0_pointsOf_6 : decode cX0_pointsOf 6 = .ok (.iconst 0, 1) := by decide +kernel
theorem dX0_pointsOf_7 : decode cX0_pointsOf 7 = .ok (.istore 5, 2) := by decide +kernel
theorem dX0_pointsOf_9 : decode cX0_pointsOf 9 = .ok (.iload 5, 2) := by decide +kernel
theorem dX0_pointsOf_11 : decode cX0_pointsOf 11 = .ok (.aload_n 0, 1) := by decide +kernel
theorem dX0_pointsOf_12 : decode cX0_pointsOf 12 = .ok (.getfield 22, 3) := by decide +kernel
theorem dX0_pointsOf_15 : decode cX0_pointsOf 15 = .ok (.getfield 44, 3) := by decide +kernel
theorem dX0_pointsOf_18 : decode cX0_pointsOf 18 = .ok (.if_icmp .ge 23, 3) := by decide +kernel
theorem dX0_pointsOf_21 : decode cX0_pointsOf 21 = .ok (.aload_n 0, 1) := by decide +kernel
theorem dX0_pointsOf_22 : decode cX0_pointsOf 22 = .ok (.getfield 19, 3) := by decide +kernel
theorem dX0_pointsOf_25 : decode cX0_pointsOf 25 = .ok (.iload 5, 2) := by decide +kernel
theorem dX0_pointsOf_27 : decode cX0_pointsOf 27 = .ok (.aload_n 0, 1) := by decide +kernel
theorem dX0_pointsOf_28 : decode cX0_pointsOf 28 = .ok (.iload 5, 2) := by decide +kernel
theorem dX0_pointsOf_30 : decode cX0_pointsOf 30 = .ok (.iconst 0, 1) := by decide +kernel
theorem dX0_pointsOf_31 : decode cX0_pointsOf 31 = .ok (.invokevirtual 47, 3) := by decide +kernel
theorem dX0_pointsOf_34 : decode cX0_pointsOf 34 = .ok (.iastore, 1) := by decide +kernel
theorem dX0_pointsOf_35 : decode cX0_pointsOf 35 = .ok (.iinc 5 1, 3) := by decide +kernel
theorem dX0_pointsOf_38 : decode cX0_pointsOf 38 = .ok (.goto (-29), 3) := by decide +kernel
theorem dX0_pointsOf_41 : decode cX0_pointsOf 41 = .ok (.iconst 0, 1) := by decide +kernel
theorem dX0_pointsOf_42 : decode cX0_pointsOf 42 = .ok (.istore 5, 2) := by decide +kernel
theorem dX0_pointsOf_44 : decode cX0_pointsOf 44 = .ok (.aload_n 0, 1) := by decide +kernel
theorem dX0_pointsOf_45 : decode cX0_pointsOf 45 = .ok (.invokevirtual 50, 3) := by decide +kernel
theorem dX0_pointsOf_48 : decode cX0_pointsOf 48 = .ok (.istore 6, 2) := by decide +kernel
theorem dX0_pointsOf_50 : decode cX0_pointsOf 50 = .ok (.iconst 0, 1) := by decide +kernel
theorem dX0_pointsOf_51 : decode cX0_pointsOf 51 = .ok (.istore 7, 2) := by decide +kernel
theorem dX0_pointsOf_53 : decode cX0_pointsOf 53 = .ok (.iload 7, 2) := by decide +kernel
theorem dX0_pointsOf_55 : decode cX0_pointsOf 55 = .ok (.sipush 320, 3) := by decide +kernel
theorem dX0_pointsOf_58 : decode cX0_pointsOf 58 = .ok (.if_icmp .ge 59, 3) := by decide +kernel
theorem dX0_pointsOf_61 : decode cX0_pointsOf 61 = .ok (.iload 6, 2) := by decide +kernel
theorem dX0_pointsOf_63 : decode cX0_pointsOf 63 = .ok (.ifCond .lt 54, 3) := by decide +kernel
theorem dX0_pointsOf_66 : decode cX0_pointsOf 66 = .ok (.aload_n 0, 1) := by decide +kernel
theorem dX0_pointsOf_67 : decode cX0_pointsOf 67 = .ok (.iload 6, 2) := by decide +kernel
theorem dX0_pointsOf_69 : decode cX0_pointsOf 69 = .ok (.invokevirtual 54, 3) := by decide +kernel
theorem dX0_pointsOf_72 : decode cX0_pointsOf 72 = .ok (.iload 4, 2) := by decide +kernel
theorem dX0_pointsOf_74 : decode cX0_pointsOf 74 = .ok (.iadd, 1) := by decide +kernel
theorem dX0_pointsOf_75 : decode cX0_pointsOf 75 = .ok (.istore 8, 2) := by decide +kernel
theorem dX0_pointsOf_77 : decode cX0_pointsOf 77 = .ok (.aload_n 0, 1) := by decide +kernel
theorem dX0_pointsOf_78 : decode cX0_pointsOf 78 = .ok (.iload 8, 2) := by decide +kernel
theorem dX0_pointsOf_80 : decode cX0_pointsOf 80 = .ok (.invokevirtual 58, 3) := by decide +kernel
theorem dX0_pointsOf_83 : decode cX0_pointsOf 83 = .ok (.iload_n 3, 1) := by decide +kernel
theorem dX0_pointsOf_84 : decode cX0_pointsOf 84 = .ok (.if_icmp .lt 15, 3) := by decide +kernel
theorem dX0_pointsOf_87 : decode cX0_pointsOf 87 = .ok (.iinc 5 1, 3) := by decide +kernel
theorem dX0_pointsOf_90 : decode cX0_pointsOf 90 = .ok (.aload_n 0, 1) := by decide +kernel
theorem dX0_pointsOf_91 : decode cX0_pointsOf 91 = .ok (.iload 8, 2) := by decide +kernel
theorem dX0_pointsOf_93 : decode cX0_pointsOf 93 = .ok (.invokevirtual 61, 3) := by decide +kernel
theorem dX0_pointsOf_96 : decode cX0_pointsOf 96 = .ok (.goto 9, 3) := by decide +kernel
theorem dX0_pointsOf_99 : decode cX0_pointsOf 99 = .ok (.aload_n 0, 1) := by decide +kernel
theorem dX0_pointsOf_100 : decode cX0_pointsOf 100 = .ok (.iload 6, 2) := by decide +kernel
theorem dX0_pointsOf_102 : decode cX0_pointsOf 102 = .ok (.invokevirtual 65, 3) := by decide +kernel
theorem dX0_pointsOf_105 : decode cX0_pointsOf 105 = .ok (.aload_n 0, 1) := by decide +kernel
theorem dX0_pointsOf_106 : decode cX0_pointsOf 106 = .ok (.invokevirtual 50, 3) := by decide +kernel
theorem dX0_pointsOf_109 : decode cX0_pointsOf 109 = .ok (.istore 6, 2) := by decide +kernel
theorem dX0_pointsOf_111 : decode cX0_pointsOf 111 = .ok (.iinc 7 1, 3) := by decide +kernel
theorem dX0_pointsOf_114 : decode cX0_pointsOf 114 = .ok (.goto (-61), 3) := by decide +kernel
theorem dX0_pointsOf_117 : decode cX0_pointsOf 117 = .ok (.iload 5, 2) := by decide +kernel
theorem dX0_pointsOf_119 : decode cX0_pointsOf 119 = .ok (.ireturn, 1) := by decide +kernel
set_option maxRecDepth 20000 in
theorem ggX0_fillRow_X3_blowPart : GoodIn wsX0_fillRow wsX3_blowPart := goodIn_r _ [7, 8, 20, 21, 22, 23, 24, 25, 26, 27, 28, 29, 30, 31, 32] (by decide +kernel) (by decide +kernel)
set_option maxRecDepth 20000 in
theorem gX0_fillRow_X3_blowPart : GoodIn wsX0_fillRow (wsV RX0 71 RX3 yX3_blowPart wsX3_blowPart) := goodIn_app (goodIn_of _ (by decide +kernel)) ggX0_fillRow_X3_blowPart
set_option maxRecDepth 20000 in
theorem ggX0_fillRow_X0_putIntoRow : GoodIn wsX0_fillRow wsX0_putIntoRow := goodIn_r _ [13, 1, 2, 14, 3, 4, 5, 6, 7, 8, 15, 16, 17, 18, 19, 20, 21, 22, 23, 24, 25, 26, 27, 28, 29, 30, 31, 32] (by decide +kernel) (by decide +kernel)
set_option maxRecDepth 20000 in
theorem gX0_fillRow_X0_putIntoRow : GoodIn wsX0_fillRow (wsV RX0 74 RX0 yX0_putIntoRow wsX0_putIntoRow) := goodIn_app (goodIn_of _ (by decide +kernel)) ggX0_fillRow_X0_putIntoRow
theorem dX0_fillRow_0 : decode cX0_fillRow 0 = .ok (.aload_n 0, 1) := by decide +kernel
theorem dX0_fillRow_1 : decode cX0_fillRow 1 = .ok (.iconst 0, 1) := by decide +kernel
theorem dX0_fillRow_2 : decode cX0_fillRow 2 = .ok (.putfield 15, 3) := by decide +kernel
theorem dX0_fillRow_5 : decode cX0_fillRow 5 = .ok (.iconst 0, 1) := by decide +kernel
theorem dX0_fillRow_6 : decode cX0_fillRow 6 = .ok (.istore_n 3, 1) := by decide +kernel
theorem dX0_fillRow_7 : decode cX0_fillRow 7 = .ok (.iload_n 3, 1) := by decide +kernel
theorem dX0_fillRow_8 : decode cX0_fillRow 8 = .ok (.aload_n 0, 1) := by decide +kernel
theorem dX0_fillRow_9 : decode cX0_fillRow 9 = .ok (.getfield 22, 3) := by decide +kernel
theorem dX0_fillRow_12 : decode cX0_fillRow 12 = .ok (.getfield 68, 3) := by decide +kernel
theorem dX0_fillRow_15 : decode cX0_fillRow 15 = .ok (.if_icmp .ge 40, 3) := by decide +kernel
theorem dX0_fillRow_18 : decode cX0_fillRow 18 = .ok (.aload_n 0, 1) := by decide +kernel
theorem dX0_fillRow_19 : decode cX0_fillRow 19 = .ok (.getfield 22, 3) := by decide +kernel
theorem dX0_fillRow_22 : decode cX0_fillRow 22 = .ok (.iload_n 3, 1) := by decide +kernel
theorem dX0_fillRow_23 : decode cX0_fillRow 23 = .ok (.iconst 0, 1) := by decide +kernel
theorem dX0_fillRow_24 : decode cX0_fillRow 24 = .ok (.invokevirtual 71, 3) := by decide +kernel
theorem dX0_fillRow_27 : decode cX0_fillRow 27 = .ok (.iload_n 1, 1) := by decide +kernel
theorem dX0_fillRow_28 : decode cX0_fillRow 28 = .ok (.if_icmp .ne 21, 3) := by decide +kernel
theorem dX0_fillRow_31 : decode cX0_fillRow 31 = .ok (.aload_n 0, 1) := by decide +kernel
theorem dX0_fillRow_32 : decode cX0_fillRow 32 = .ok (.getfield 22, 3) := by decide +kernel
theorem dX0_fillRow_35 : decode cX0_fillRow 35 = .ok (.iload_n 3, 1) := by decide +kernel
theorem dX0_fillRow_36 : decode cX0_fillRow 36 = .ok (.iconst 2, 1) := by decide +kernel
theorem dX0_fillRow_37 : decode cX0_fillRow 37 = .ok (.invokevirtual 71, 3) := by decide +kernel
theorem dX0_fillRow_40 : decode cX0_fillRow 40 = .ok (.iload_n 2, 1) := by decide +kernel
theorem dX0_fillRow_41 : decode cX0_fillRow 41 = .ok (.if_icmp .ne 8, 3) := by decide +kernel
theorem dX0_fillRow_44 : decode cX0_fillRow 44 = .ok (.aload_n 0, 1) := by decide +kernel
theorem dX0_fillRow_45 : decode cX0_fillRow 45 = .ok (.iload_n 3, 1) := by decide +kernel
theorem dX0_fillRow_46 : decode cX0_fillRow 46 = .ok (.invokevirtual 74, 3) := by decide +kernel
theorem dX0_fillRow_49 : decode cX0_fillRow 49 = .ok (.iinc 3 1, 3) := by decide +kernel
theorem dX0_fillRow_52 : decode cX0_fillRow 52 = .ok (.goto (-45), 3) := by decide +kernel
theorem dX0_fillRow_55 : decode cX0_fillRow 55 = .ok (.return_, 1) := by decide +kernel
set_option maxRecDepth 20000 in
theorem ggX0_putIntoRow_X3_blowPart : GoodIn wsX0_putIntoRow wsX3_blowPart := goodIn_r _ [8, 9, 15, 16, 17, 18, 19, 20, 21, 22, 23, 24, 25, 26, 27] (by decide +kernel) (by decide +kernel)
set_option maxRecDepth 20000 in
theorem gX0_putIntoRow_X3_blowPart : GoodIn wsX0_putIntoRow (wsV RX0 71 RX3 yX3_blowPart wsX3_blowPart) := goodIn_app (goodIn_of _ (by decide +kernel)) ggX0_putIntoRow_X3_blowPart
theorem dX0_putIntoRow_0 : decode cX0_putIntoRow 0 = .ok (.aload_n 0, 1) := by decide +kernel
theorem dX0_putIntoRow_1 : decode cX0_putIntoRow 1 = .ok (.getfield 15, 3) := by decide +kernel
theorem dX0_putIntoRow_4 : decode cX0_putIntoRow 4 = .ok (.istore_n 2, 1) := by decide +kernel
theorem dX0_putIntoRow_5 : decode cX0_putIntoRow 5 = .ok (.iload_n 2, 1) := by decide +kernel
theorem dX0_putIntoRow_6 : decode cX0_putIntoRow 6 = .ok (.ifCond .le 51, 3) := by decide +kernel
theorem dX0_putIntoRow_9 : decode cX0_putIntoRow 9 = .ok (.aload_n 0, 1) := by decide +kernel
theorem dX0_putIntoRow_10 : decode cX0_putIntoRow 10 = .ok (.getfield 22, 3) := by decide +kernel
theorem dX0_putIntoRow_13 : decode cX0_putIntoRow 13 = .ok (.aload_n 0, 1) := by decide +kernel
theorem dX0_putIntoRow_14 : decode cX0_putIntoRow 14 = .ok (.getfield 9, 3) := by decide +kernel
theorem dX0_putIntoRow_17 : decode cX0_putIntoRow 17 = .ok (.iload_n 2, 1) := by decide +kernel
theorem dX0_putIntoRow_18 : decode cX0_putIntoRow 18 = .ok (.iconst 1, 1) := by decide +kernel
theorem dX0_putIntoRow_19 : decode cX0_putIntoRow 19 = .ok (.isub, 1) := by decide +kernel
theorem dX0_putIntoRow_20 : decode cX0_putIntoRow 20 = .ok (.iaload, 1) := by decide +kernel
theorem dX0_putIntoRow_21 : decode cX0_putIntoRow 21 = .ok (.iconst 1, 1) := by decide +kernel
theorem dX0_putIntoRow_22 : decode cX0_putIntoRow 22 = .ok (.invokevirtual 71, 3) := by decide +kernel
theorem dX0_putIntoRow_25 : decode cX0_putIntoRow 25 = .ok (.aload_n 0, 1) := by decide +kernel
theorem dX0_putIntoRow_26 : decode cX0_putIntoRow 26 = .ok (.getfield 22, 3) := by decide +kernel
theorem dX0_putIntoRow_29 : decode cX0_putIntoRow 29 = .ok (.iload_n 1, 1) := by decide +kernel
theorem dX0_putIntoRow_30 : decode cX0_putIntoRow 30 = .ok (.iconst 1, 1) := by decide +kernel
theorem dX0_putIntoRow_31 : decode cX0_putIntoRow 31 = .ok (.invokevirtual 71, 3) := by decide +kernel
theorem dX0_putIntoRow_34 : decode cX0_putIntoRow 34 = .ok (.if_icmp .le 23, 3) := by decide +kernel
theorem dX0_putIntoRow_37 : decode cX0_putIntoRow 37 = .ok (.aload_n 0, 1) := by decide +kernel
theorem dX0_putIntoRow_38 : decode cX0_putIntoRow 38 = .ok (.getfield 9, 3) := by decide +kernel
theorem dX0_putIntoRow_41 : decode cX0_putIntoRow 41 = .ok (.iload_n 2, 1) := by decide +kernel
theorem dX0_putIntoRow_42 : decode cX0_putIntoRow 42 = .ok (.aload_n 0, 1) := by decide +kernel
theorem dX0_putIntoRow_43 : decode cX0_putIntoRow 43 = .ok (.getfield 9, 3) := by decide +kernel
theorem dX0_putIntoRow_46 : decode cX0_putIntoRow 46 = .ok (.iload_n 2, 1) := by decide +kernel
theorem dX0_putIntoRow_47 : decode cX0_putIntoRow 47 = .ok (.iconst 1, 1) := by decide +kernel
theorem dX0_putIntoRow_48 : decode cX0_putIntoRow 48 = .ok (.isub, 1) := by decide +kernel
theorem dX0_putIntoRow_49 : decode cX0_putIntoRow 49 = .ok (.iaload, 1) := by decide +kernel
theorem dX0_putIntoRow_50 : decode cX0_putIntoRow 50 = .ok (.iastore, 1) := by decide +kernel
theorem dX0_putIntoRow_51 : decode cX0_putIntoRow 51 = .ok (.iinc 2 (-1), 3) := by decide +kernel
theorem dX0_putIntoRow_54 : decode cX0_putIntoRow 54 = .ok (.goto (-49), 3) := by decide +kernel
theorem dX0_putIntoRow_57 : decode cX0_putIntoRow 57 = .ok (.aload_n 0, 1) := by decide +kernel
theorem dX0_putIntoRow_58 : decode cX0_putIntoRow 58 = .ok (.getfield 9, 3) := by decide +kernel
theorem dX0_putIntoRow_61 : decode cX0_putIntoRow 61 = .ok (.iload_n 2, 1) := by decide +kernel
theorem dX0_putIntoRow_62 : decode cX0_putIntoRow 62 = .ok (.iload_n 1, 1) := by decide +kernel
theorem dX0_putIntoRow_63 : decode cX0_putIntoRow 63 = .ok (.iastore, 1) := by decide +kernel
theorem dX0_putIntoRow_64 : decode cX0_putIntoRow 64 = .ok (.aload_n 0, 1) := by decide +kernel
theorem dX0_putIntoRow_65 : decode cX0_putIntoRow 65 = .ok (.dup, 1) := by decide +kernel
theorem dX0_putIntoRow_66 : decode cX0_putIntoRow 66 = .ok (.getfield 15, 3) := by decide +kernel
theorem dX0_putIntoRow_69 : decode cX0_putIntoRow 69 = .ok (.iconst 1, 1) := by decide +kernel
theorem dX0_putIntoRow_70 : decode cX0_putIntoRow 70 = .ok (.iadd, 1) := by decide +kernel
theorem dX0_putIntoRow_71 : decode cX0_putIntoRow 71 = .ok (.putfield 15, 3) := by decide +kernel
theorem dX0_putIntoRow_74 : decode cX0_putIntoRow 74 = .ok (.return_, 1) := by decide +kernel
set_option maxRecDepth 20000 in
theorem ggX0_seenFrom_X3_isSeen : GoodIn wsX0_seenFrom wsX3_isSeen := goodIn_r _ [8, 9, 15, 16, 17, 18, 19, 20, 21, 22, 23, 24, 25, 26, 27] (by decide +kernel) (by decide +kernel)
set_option maxRecDepth 20000 in
theorem gX0_seenFrom_X3_isSeen : GoodIn wsX0_seenFrom (wsV RX0 77 RX3 yX3_isSeen wsX3_isSeen) := goodIn_app (goodIn_of _ (by decide +kernel)) ggX0_seenFrom_X3_isSeen
theorem dX0_seenFrom_0 : decode cX0_seenFrom 0 = .ok (.iload_n 2, 1) := by decide +kernel
theorem dX0_seenFrom_1 : decode cX0_seenFrom 1 = .ok (.istore_n 3, 1) := by decide +kernel
theorem dX0_seenFrom_2 : decode cX0_seenFrom 2 = .ok (.iload_n 3, 1) := by decide +kernel
theorem dX0_seenFrom_3 : decode cX0_seenFrom 3 = .ok (.aload_n 0, 1) := by decide +kernel
theorem dX0_seenFrom_4 : decode cX0_seenFrom 4 = .ok (.getfield 15, 3) := by decide +kernel
theorem dX0_seenFrom_7 : decode cX0_seenFrom 7 = .ok (.if_icmp .ge 26, 3) := by decide +kernel
theorem dX0_seenFrom_10 : decode cX0_seenFrom 10 = .ok (.aload_n 0, 1) := by decide +kernel
theorem dX0_seenFrom_11 : decode cX0_seenFrom 11 = .ok (.getfield 22, 3) := by decide +kernel
theorem dX0_seenFrom_14 : decode cX0_seenFrom 14 = .ok (.iload_n 1, 1) := by decide +kernel
theorem dX0_seenFrom_15 : decode cX0_seenFrom 15 = .ok (.aload_n 0, 1) := by decide +kernel
theorem dX0_seenFrom_16 : decode cX0_seenFrom 16 = .ok (.getfield 9, 3) := by decide +kernel
theorem dX0_seenFrom_19 : decode cX0_seenFrom 19 = .ok (.iload_n 3, 1) := by decide +kernel
theorem dX0_seenFrom_20 : decode cX0_seenFrom 20 = .ok (.iaload, 1) := by decide +kernel
theorem dX0_seenFrom_21 : decode cX0_seenFrom 21 = .ok (.invokevirtual 77, 3) := by decide +kernel
theorem dX0_seenFrom_24 : decode cX0_seenFrom 24 = .ok (.ifCond .ne 9, 3) := by decide +kernel
theorem dX0_seenFrom_27 : decode cX0_seenFrom 27 = .ok (.iinc 3 1, 3) := by decide +kernel
theorem dX0_seenFrom_30 : decode cX0_seenFrom 30 = .ok (.goto (-28), 3) := by decide +kernel
theorem dX0_seenFrom_33 : decode cX0_seenFrom 33 = .ok (.iload_n 3, 1) := by decide +kernel
theorem dX0_seenFrom_34 : decode cX0_seenFrom 34 = .ok (.ireturn, 1) := by decide +kernel
set_option maxRecDepth 20000 in
theorem ggX0_secondOf_X3_blowPart : GoodIn wsX0_secondOf wsX3_blowPart := goodIn_r _ [10, 11, 20, 21, 22, 23, 24, 25, 26, 27, 28, 29, 30, 31, 32] (by decide +kernel) (by decide +kernel)
set_option maxRecDepth 20000 in
theorem gX0_secondOf_X3_blowPart : GoodIn wsX0_secondOf (wsV RX0 71 RX3 yX3_blowPart wsX3_blowPart) := goodIn_app (goodIn_of _ (by decide +kernel)) ggX0_secondOf_X3_blowPart
theorem dX0_secondOf_0 : decode cX0_secondOf 0 = .ok (.aload_n 0, 1) := by decide +kernel
theorem dX0_secondOf_1 : decode cX0_secondOf 1 = .ok (.getfield 19, 3) := by decide +kernel
theorem dX0_secondOf_4 : decode cX0_secondOf 4 = .ok (.iload_n 1, 1) := by decide +kernel
theorem dX0_secondOf_5 : decode cX0_secondOf 5 = .ok (.iaload, 1) := by decide +kernel
theorem dX0_secondOf_6 : decode cX0_secondOf 6 = .ok (.istore_n 2, 1) := by decide +kernel
theorem dX0_secondOf_7 : decode cX0_secondOf 7 = .ok (.iload_n 2, 1) := by decide +kernel
theorem dX0_secondOf_8 : decode cX0_secondOf 8 = .ok (.aload_n 0, 1) := by decide +kernel
theorem dX0_secondOf_9 : decode cX0_secondOf 9 = .ok (.getfield 15, 3) := by decide +kernel
theorem dX0_secondOf_12 : decode cX0_secondOf 12 = .ok (.if_icmp .ge 30, 3) := by decide +kernel
theorem dX0_secondOf_15 : decode cX0_secondOf 15 = .ok (.aload_n 0, 1) := by decide +kernel
theorem dX0_secondOf_16 : decode cX0_secondOf 16 = .ok (.getfield 22, 3) := by decide +kernel
theorem dX0_secondOf_19 : decode cX0_secondOf 19 = .ok (.aload_n 0, 1) := by decide +kernel
theorem dX0_secondOf_20 : decode cX0_secondOf 20 = .ok (.getfield 9, 3) := by decide +kernel
theorem dX0_secondOf_23 : decode cX0_secondOf 23 = .ok (.iload_n 2, 1) := by decide +kernel
theorem dX0_secondOf_24 : decode cX0_secondOf 24 = .ok (.iaload, 1) := by decide +kernel
theorem dX0_secondOf_25 : decode cX0_secondOf 25 = .ok (.iconst 1, 1) := by decide +kernel
theorem dX0_secondOf_26 : decode cX0_secondOf 26 = .ok (.invokevirtual 71, 3) := by decide +kernel
theorem dX0_secondOf_29 : decode cX0_secondOf 29 = .ok (.aload_n 0, 1) := by decide +kernel
theorem dX0_secondOf_30 : decode cX0_secondOf 30 = .ok (.getfield 26, 3) := by decide +kernel
theorem dX0_secondOf_33 : decode cX0_secondOf 33 = .ok (.getfield 81, 3) := by decide +kernel
theorem dX0_secondOf_36 : decode cX0_secondOf 36 = .ok (.iload_n 1, 1) := by decide +kernel
theorem dX0_secondOf_37 : decode cX0_secondOf 37 = .ok (.iaload, 1) := by decide +kernel
theorem dX0_secondOf_38 : decode cX0_secondOf 38 = .ok (.iadd, 1) := by decide +kernel
theorem dX0_secondOf_39 : decode cX0_secondOf 39 = .ok (.goto 6, 3) := by decide +kernel
theorem dX0_secondOf_42 : decode cX0_secondOf 42 = .ok (.sipush 1000, 3) := by decide +kernel
theorem dX0_secondOf_45 : decode cX0_secondOf 45 = .ok (.ireturn, 1) := by decide +kernel
set_option maxRecDepth 20000 in
theorem ggX0_firstPresser_X0_secondOf : GoodIn wsX0_firstPresser wsX0_secondOf := goodIn_r _ [6, 7, 8, 1, 9, 10, 11, 12, 13, 14, 15, 16, 17, 18, 19, 20, 21, 35, 36, 37, 22, 23, 24, 25, 26, 27, 28, 29, 30, 31, 32, 33, 34] (by decide +kernel) (by decide +kernel)
set_option maxRecDepth 20000 in
theorem gX0_firstPresser_X0_secondOf : GoodIn wsX0_firstPresser (wsV RX0 54 RX0 yX0_secondOf wsX0_secondOf) := goodIn_app (goodIn_of _ (by decide +kernel)) ggX0_firstPresser_X0_secondOf
theorem dX0_firstPresser_0 : decode cX0_firstPresser 0 = .ok (.iconst (-1), 1) := by decide +kernel
theorem dX0_firstPresser_1 : decode cX0_firstPresser 1 = .ok (.istore_n 1, 1) := by decide +kernel
theorem dX0_firstPresser_2 : decode cX0_firstPresser 2 = .ok (.sipush 1000, 3) := by decide +kernel
theorem dX0_firstPresser_5 : decode cX0_firstPresser 5 = .ok (.istore_n 2, 1) := by decide +kernel
theorem dX0_firstPresser_6 : decode cX0_firstPresser 6 = .ok (.iconst 0, 1) := by decide +kernel
theorem dX0_firstPresser_7 : decode cX0_firstPresser 7 = .ok (.istore_n 3, 1) := by decide +kernel
theorem dX0_firstPresser_8 : decode cX0_firstPresser 8 = .ok (.iload_n 3, 1) := by decide +kernel
theorem dX0_firstPresser_9 : decode cX0_firstPresser 9 = .ok (.aload_n 0, 1) := by decide +kernel
theorem dX0_firstPresser_10 : decode cX0_firstPresser 10 = .ok (.getfield 22, 3) := by decide +kernel
theorem dX0_firstPresser_13 : decode cX0_firstPresser 13 = .ok (.getfield 44, 3) := by decide +kernel
theorem dX0_firstPresser_16 : decode cX0_firstPresser 16 = .ok (.if_icmp .ge 27, 3) := by decide +kernel
theorem dX0_firstPresser_19 : decode cX0_firstPresser 19 = .ok (.aload_n 0, 1) := by decide +kernel
theorem dX0_firstPresser_20 : decode cX0_firstPresser 20 = .ok (.iload_n 3, 1) := by decide +kernel
theorem dX0_firstPresser_21 : decode cX0_firstPresser 21 = .ok (.invokevirtual 54, 3) := by decide +kernel
theorem dX0_firstPresser_24 : decode cX0_firstPresser 24 = .ok (.istore 4, 2) := by decide +kernel
theorem dX0_firstPresser_26 : decode cX0_firstPresser 26 = .ok (.iload 4, 2) := by decide +kernel
theorem dX0_firstPresser_28 : decode cX0_firstPresser 28 = .ok (.iload_n 2, 1) := by decide +kernel
theorem dX0_firstPresser_29 : decode cX0_firstPresser 29 = .ok (.if_icmp .ge 8, 3) := by decide +kernel
theorem dX0_firstPresser_32 : decode cX0_firstPresser 32 = .ok (.iload_n 3, 1) := by decide +kernel
theorem dX0_firstPresser_33 : decode cX0_firstPresser 33 = .ok (.istore_n 1, 1) := by decide +kernel
theorem dX0_firstPresser_34 : decode cX0_firstPresser 34 = .ok (.iload 4, 2) := by decide +kernel
theorem dX0_firstPresser_36 : decode cX0_firstPresser 36 = .ok (.istore_n 2, 1) := by decide +kernel
theorem dX0_firstPresser_37 : decode cX0_firstPresser 37 = .ok (.iinc 3 1, 3) := by decide +kernel
theorem dX0_firstPresser_40 : decode cX0_firstPresser 40 = .ok (.goto (-32), 3) := by decide +kernel
theorem dX0_firstPresser_43 : decode cX0_firstPresser 43 = .ok (.iload_n 1, 1) := by decide +kernel
theorem dX0_firstPresser_44 : decode cX0_firstPresser 44 = .ok (.ireturn, 1) := by decide +kernel
set_option maxRecDepth 20000 in
theorem ggX0_pressersUntil_X0_secondOf : GoodIn wsX0_pressersUntil wsX0_secondOf := goodIn_r _ [6, 7, 8, 1, 9, 10, 11, 12, 13, 14, 15, 16, 17, 18, 19, 20, 21, 35, 36, 37, 22, 23, 24, 25, 26, 27, 28, 29, 30, 31, 32, 33, 34] (by decide +kernel) (by decide +kernel)
set_option maxRecDepth 20000 in
theorem gX0_pressersUntil_X0_secondOf : GoodIn wsX0_pressersUntil (wsV RX0 54 RX0 yX0_secondOf wsX0_secondOf) := goodIn_app (goodIn_of _ (by decide +kernel)) ggX0_pressersUntil_X0_secondOf
theorem dX0_pressersUntil_0 : decode cX0_pressersUntil 0 = .ok (.iconst 0, 1) := by decide +kernel
theorem dX0_pressersUntil_1 : decode cX0_pressersUntil 1 = .ok (.istore_n 2, 1) := by decide +kernel
theorem dX0_pressersUntil_2 : decode cX0_pressersUntil 2 = .ok (.iconst 0, 1) := by decide +kernel
theorem dX0_pressersUntil_3 : decode cX0_pressersUntil 3 = .ok (.istore_n 3, 1) := by decide +kernel
theorem dX0_pressersUntil_4 : decode cX0_pressersUntil 4 = .ok (.iload_n 3, 1) := by decide +kernel
theorem dX0_pressersUntil_5 : decode cX0_pressersUntil 5 = .ok (.aload_n 0, 1) := by decide +kernel
theorem dX0_pressersUntil_6 : decode cX0_pressersUntil 6 = .ok (.getfield 22, 3) := by decide +kernel
theorem dX0_pressersUntil_9 : decode cX0_pressersUntil 9 = .ok (.getfield 44, 3) := by decide +kernel
theorem dX0_pressersUntil_12 : decode cX0_pressersUntil 12 = .ok (.if_icmp .ge 26, 3) := by decide +kernel
theorem dX0_pressersUntil_15 : decode cX0_pressersUntil 15 = .ok (.iload_n 2, 1) := by decide +kernel
theorem dX0_pressersUntil_16 : decode cX0_pressersUntil 16 = .ok (.aload_n 0, 1) := by decide +kernel
theorem dX0_pressersUntil_17 : decode cX0_pressersUntil 17 = .ok (.iload_n 3, 1) := by decide +kernel
theorem dX0_pressersUntil_18 : decode cX0_pressersUntil 18 = .ok (.invokevirtual 54, 3) := by decide +kernel
theorem dX0_pressersUntil_21 : decode cX0_pressersUntil 21 = .ok (.iload_n 1, 1) := by decide +kernel
theorem dX0_pressersUntil_22 : decode cX0_pressersUntil 22 = .ok (.if_icmp .gt 7, 3) := by decide +kernel
theorem dX0_pressersUntil_25 : decode cX0_pressersUntil 25 = .ok (.iconst 1, 1) := by decide +kernel
theorem dX0_pressersUntil_26 : decode cX0_pressersUntil 26 = .ok (.goto 4, 3) := by decide +kernel
theorem dX0_pressersUntil_29 : decode cX0_pressersUntil 29 = .ok (.iconst 0, 1) := by decide +kernel
theorem dX0_pressersUntil_30 : decode cX0_pressersUntil 30 = .ok (.iadd, 1) := by decide +kernel
theorem dX0_pressersUntil_31 : decode cX0_pressersUntil 31 = .ok (.istore_n 2, 1) := by decide +kernel
theorem dX0_pressersUntil_32 : decode cX0_pressersUntil 32 = .ok (.iinc 3 1, 3) := by decide +kernel
theorem dX0_pressersUntil_35 : decode cX0_pressersUntil 35 = .ok (.goto (-31), 3) := by decide +kernel
theorem dX0_pressersUntil_38 : decode cX0_pressersUntil 38 = .ok (.iload_n 2, 1) := by decide +kernel
theorem dX0_pressersUntil_39 : decode cX0_pressersUntil 39 = .ok (.ireturn, 1) := by decide +kernel
set_option maxRecDepth 20000 in
theorem ggX0_useUntil_X0_secondOf : GoodIn wsX0_useUntil wsX0_secondOf := goodIn_r _ [6, 7, 8, 1, 9, 10, 11, 12, 13, 14, 15, 16, 30, 31, 32, 33, 34, 48, 49, 50, 35, 36, 37, 38, 39, 40, 41, 42, 43, 44, 45, 46, 47] (by decide +kernel) (by decide +kernel)
set_option maxRecDepth 20000 in
theorem gX0_useUntil_X0_secondOf : GoodIn wsX0_useUntil (wsV RX0 54 RX0 yX0_secondOf wsX0_secondOf) := goodIn_app (goodIn_of _ (by decide +kernel)) ggX0_useUntil_X0_secondOf
set_option maxRecDepth 20000 in
theorem ggX0_useUntil_X0_useOne : GoodIn wsX0_useUntil wsX0_useOne := goodIn_r _ [20, 7, 21, 22, 23, 5, 24, 8, 1, 9, 25, 26, 27, 14, 28, 29, 30, 31, 32, 33, 34, 35, 36, 37, 38, 39, 40, 41, 42, 43, 44, 45, 46, 47] (by decide +kernel) (by decide +kernel)
set_option maxRecDepth 20000 in
theorem gX0_useUntil_X0_useOne : GoodIn wsX0_useUntil (wsV RX0 65 RX0 yX0_useOne wsX0_useOne) := goodIn_app (goodIn_of _ (by decide +kernel)) ggX0_useUntil_X0_useOne
theorem dX0_useUntil_0 : decode cX0_useUntil 0 = .ok (.iconst 0, 1) := by decide +kernel
theorem dX0_useUntil_1 : decode cX0_useUntil 1 = .ok (.istore_n 2, 1) := by decide +kernel
theorem dX0_useUntil_2 : decode cX0_useUntil 2 = .ok (.iload_n 2, 1) := by decide +kernel
theorem dX0_useUntil_3 : decode cX0_useUntil 3 = .ok (.aload_n 0, 1) := by decide +kernel
theorem dX0_useUntil_4 : decode cX0_useUntil 4 = .ok (.getfield 22, 3) := by decide +kernel
theorem dX0_useUntil_7 : decode cX0_useUntil 7 = .ok (.getfield 44, 3) := by decide +kernel
theorem dX0_useUntil_10 : decode cX0_useUntil 10 = .ok (.if_icmp .ge 23, 3) := by decide +kernel
theorem dX0_useUntil_13 : decode cX0_useUntil 13 = .ok (.aload_n 0, 1) := by decide +kernel
theorem dX0_useUntil_14 : decode cX0_useUntil 14 = .ok (.iload_n 2, 1) := by decide +kernel
theorem dX0_useUntil_15 : decode cX0_useUntil 15 = .ok (.invokevirtual 54, 3) := by decide +kernel
theorem dX0_useUntil_18 : decode cX0_useUntil 18 = .ok (.iload_n 1, 1) := by decide +kernel
theorem dX0_useUntil_19 : decode cX0_useUntil 19 = .ok (.if_icmp .gt 8, 3) := by decide +kernel
theorem dX0_useUntil_22 : decode cX0_useUntil 22 = .ok (.aload_n 0, 1) := by decide +kernel
theorem dX0_useUntil_23 : decode cX0_useUntil 23 = .ok (.iload_n 2, 1) := by decide +kernel
theorem dX0_useUntil_24 : decode cX0_useUntil 24 = .ok (.invokevirtual 65, 3) := by decide +kernel
theorem dX0_useUntil_27 : decode cX0_useUntil 27 = .ok (.iinc 2 1, 3) := by decide +kernel
theorem dX0_useUntil_30 : decode cX0_useUntil 30 = .ok (.goto (-28), 3) := by decide +kernel
theorem dX0_useUntil_33 : decode cX0_useUntil 33 = .ok (.return_, 1) := by decide +kernel
set_option maxRecDepth 20000 in
theorem ggX0_useOne_X0_seenFrom : GoodIn wsX0_useOne wsX0_seenFrom := goodIn_r _ [6, 7, 8, 9, 10, 11, 12, 13, 14, 15, 16, 17, 18, 19, 20, 21, 22, 23, 24, 25, 26, 27, 28, 29, 30, 31, 32, 33] (by decide +kernel) (by decide +kernel)
set_option maxRecDepth 20000 in
theorem gX0_useOne_X0_seenFrom : GoodIn wsX0_useOne (wsV RX0 47 RX0 yX0_seenFrom wsX0_seenFrom) := goodIn_app (goodIn_of _ (by decide +kernel)) ggX0_useOne_X0_seenFrom
theorem dX0_useOne_0 : decode cX0_useOne 0 = .ok (.aload_n 0, 1) := by decide +kernel
theorem dX0_useOne_1 : decode cX0_useOne 1 = .ok (.getfield 19, 3) := by decide +kernel
theorem dX0_useOne_4 : decode cX0_useOne 4 = .ok (.iload_n 1, 1) := by decide +kernel
theorem dX0_useOne_5 : decode cX0_useOne 5 = .ok (.aload_n 0, 1) := by decide +kernel
theorem dX0_useOne_6 : decode cX0_useOne 6 = .ok (.iload_n 1, 1) := by decide +kernel
theorem dX0_useOne_7 : decode cX0_useOne 7 = .ok (.aload_n 0, 1) := by decide +kernel
theorem dX0_useOne_8 : decode cX0_useOne 8 = .ok (.getfield 19, 3) := by decide +kernel
theorem dX0_useOne_11 : decode cX0_useOne 11 = .ok (.iload_n 1, 1) := by decide +kernel
theorem dX0_useOne_12 : decode cX0_useOne 12 = .ok (.iaload, 1) := by decide +kernel
theorem dX0_useOne_13 : decode cX0_useOne 13 = .ok (.iconst 1, 1) := by decide +kernel
theorem dX0_useOne_14 : decode cX0_useOne 14 = .ok (.iadd, 1) := by decide +kernel
theorem dX0_useOne_15 : decode cX0_useOne 15 = .ok (.invokevirtual 47, 3) := by decide +kernel
theorem dX0_useOne_18 : decode cX0_useOne 18 = .ok (.iastore, 1) := by decide +kernel
theorem dX0_useOne_19 : decode cX0_useOne 19 = .ok (.return_, 1) := by decide +kernel
theorem dX1_init_0 : decode cX1_init 0 = .ok (.aload_n 0, 1) := by decide +kernel
theorem dX1_init_1 : decode cX1_init 1 = .ok (.invokespecial 3, 3) := by decide +kernel
theorem dX1_init_4 : decode cX1_init 4 = .ok (.aload_n 0, 1) := by decide +kernel
theorem dX1_init_5 : decode cX1_init 5 = .ok (.bipush 8, 2) := by decide +kernel
theorem dX1_init_7 : decode cX1_init 7 = .ok (.newarray .int, 2) := by decide +kernel
theorem dX1_init_9 : decode cX1_init 9 = .ok (.putfield 11, 3) := by decide +kernel
theorem dX1_init_12 : decode cX1_init 12 = .ok (.aload_n 0, 1) := by decide +kernel
theorem dX1_init_13 : decode cX1_init 13 = .ok (.aload_n 1, 1) := by decide +kernel
theorem dX1_init_14 : decode cX1_init 14 = .ok (.putfield 17, 3) := by decide +kernel
theorem dX1_init_17 : decode cX1_init 17 = .ok (.return_, 1) := by decide +kernel
set_option maxRecDepth 20000 in
theorem ggX1_marginBy_X3_leadOf : GoodIn wsX1_marginBy wsX3_leadOf := goodIn_r _ [6, 7, 45, 46, 47, 48, 49, 50, 51, 52, 53, 54, 55, 56, 57] (by decide +kernel) (by decide +kernel)
set_option maxRecDepth 20000 in
theorem gX1_marginBy_X3_leadOf : GoodIn wsX1_marginBy (wsV RX1 21 RX3 yX3_leadOf wsX3_leadOf) := goodIn_app (goodIn_of _ (by decide +kernel)) ggX1_marginBy_X3_leadOf
set_option maxRecDepth 20000 in
theorem ggX1_marginBy_X10_signOf : GoodIn wsX1_marginBy wsX10_signOf := goodIn_r _ [10] (by decide +kernel) (by decide +kernel)
set_option maxRecDepth 20000 in
theorem gX1_marginBy_X10_signOf_n25 : GoodIn wsX1_marginBy (wsX10_signOf) := ggX1_marginBy_X10_signOf
set_option maxRecDepth 20000 in
theorem ggX1_marginBy_X10_clip : GoodIn wsX1_marginBy wsX10_clip := goodIn_r _ [12, 13, 14, 15, 16, 17, 18, 19] (by decide +kernel) (by decide +kernel)
set_option maxRecDepth 20000 in
theorem gX1_marginBy_X10_clip_n29 : GoodIn wsX1_marginBy (wsX10_clip) := ggX1_marginBy_X10_clip
set_option maxRecDepth 20000 in
theorem ggX1_marginBy_X3_downsFor : GoodIn wsX1_marginBy wsX3_downsFor := goodIn_r _ [23, 24, 45, 46, 47, 48, 49, 50, 51, 52, 53, 54, 55, 56, 57] (by decide +kernel) (by decide +kernel)
set_option maxRecDepth 20000 in
theorem gX1_marginBy_X3_downsFor : GoodIn wsX1_marginBy (wsV RX1 32 RX3 yX3_downsFor wsX3_downsFor) := goodIn_app (goodIn_of _ (by decide +kernel)) ggX1_marginBy_X3_downsFor
set_option maxRecDepth 20000 in
theorem ggX1_marginBy_X3_isClose : GoodIn wsX1_marginBy wsX3_isClose := goodIn_r _ [28, 29, 30, 15, 31, 32, 3, 4, 5, 6, 7, 33, 34, 35, 36, 37, 45, 46, 47, 48, 49, 50, 51, 52, 53, 54, 55, 56, 57] (by decide +kernel) (by decide +kernel)
set_option maxRecDepth 20000 in
theorem gX1_marginBy_X3_isClose : GoodIn wsX1_marginBy (wsV RX1 35 RX3 yX3_isClose wsX3_isClose) := goodIn_app (goodIn_of _ (by decide +kernel)) ggX1_marginBy_X3_isClose
set_option maxRecDepth 20000 in
theorem ggX1_marginBy_X1_sideOf : GoodIn wsX1_marginBy wsX1_sideOf := goodIn_r _ [42, 1, 2, 3, 4, 5, 6, 7, 8, 9, 10, 43, 44, 45, 46, 47, 48, 49, 50, 51, 52, 53, 54, 55, 56, 57] (by decide +kernel) (by decide +kernel)
set_option maxRecDepth 20000 in
theorem gX1_marginBy_X1_sideOf : GoodIn wsX1_marginBy (wsV RX1 39 RX1 yX1_sideOf wsX1_sideOf) := goodIn_app (goodIn_of _ (by decide +kernel)) ggX1_marginBy_X1_sideOf
theorem dX1_marginBy_0 : decode cX1_marginBy 0 = .ok (.iload_n 1, 1) := by decide +kernel
theorem dX1_marginBy_1 : decode cX1_marginBy 1 = .ok (.iconst 3, 1) := by decide +kernel
theorem dX1_marginBy_2 : decode cX1_marginBy 2 = .ok (.if_icmp .ne 41, 3) := by decide +kernel
theorem dX1_marginBy_5 : decode cX1_marginBy 5 = .ok (.aload_n 0, 1) := by decide +kernel
theorem dX1_marginBy_6 : decode cX1_marginBy 6 = .ok (.getfield 17, 3) := by decide +kernel
theorem dX1_marginBy_9 : decode cX1_marginBy 9 = .ok (.iload_n 2, 1) := by decide +kernel
theorem dX1_marginBy_10 : decode cX1_marginBy 10 = .ok (.iload_n 3, 1) := by decide +kernel
theorem dX1_marginBy_11 : decode cX1_marginBy 11 = .ok (.invokevirtual 21, 3) := by decide +kernel
theorem dX1_marginBy_14 : decode cX1_marginBy 14 = .ok (.istore 4, 2) := by decide +kernel
theorem dX1_marginBy_16 : decode cX1_marginBy 16 = .ok (.iload 4, 2) := by decide +kernel
theorem dX1_marginBy_18 : decode cX1_marginBy 18 = .ok (.iconst 5, 1) := by decide +kernel
theorem dX1_marginBy_19 : decode cX1_marginBy 19 = .ok (.idiv, 1) := by decide +kernel
theorem dX1_marginBy_20 : decode cX1_marginBy 20 = .ok (.iload 4, 2) := by decide +kernel
theorem dX1_marginBy_22 : decode cX1_marginBy 22 = .ok (.invokestatic 25, 3) := by decide +kernel
theorem dX1_marginBy_25 : decode cX1_marginBy 25 = .ok (.iadd, 1) := by decide +kernel
theorem dX1_marginBy_26 : decode cX1_marginBy 26 = .ok (.bipush 20, 2) := by decide +kernel
theorem dX1_marginBy_28 : decode cX1_marginBy 28 = .ok (.invokestatic 29, 3) := by decide +kernel
theorem dX1_marginBy_31 : decode cX1_marginBy 31 = .ok (.iconst 4, 1) := by decide +kernel
theorem dX1_marginBy_32 : decode cX1_marginBy 32 = .ok (.aload_n 0, 1) := by decide +kernel
theorem dX1_marginBy_33 : decode cX1_marginBy 33 = .ok (.getfield 17, 3) := by decide +kernel
theorem dX1_marginBy_36 : decode cX1_marginBy 36 = .ok (.iload_n 3, 1) := by decide +kernel
theorem dX1_marginBy_37 : decode cX1_marginBy 37 = .ok (.invokevirtual 32, 3) := by decide +kernel
theorem dX1_marginBy_40 : decode cX1_marginBy 40 = .ok (.imul, 1) := by decide +kernel
theorem dX1_marginBy_41 : decode cX1_marginBy 41 = .ok (.iadd, 1) := by decide +kernel
theorem dX1_marginBy_42 : decode cX1_marginBy 42 = .ok (.ireturn, 1) := by decide +kernel
theorem dX1_marginBy_43 : decode cX1_marginBy 43 = .ok (.iconst 2, 1) := by decide +kernel
theorem dX1_marginBy_44 : decode cX1_marginBy 44 = .ok (.istore 4, 2) := by decide +kernel
theorem dX1_marginBy_46 : decode cX1_marginBy 46 = .ok (.iload_n 1, 1) := by decide +kernel
theorem dX1_marginBy_47 : decode cX1_marginBy 47 = .ok (.ifCond .eq 27, 3) := by decide +kernel
theorem dX1_marginBy_50 : decode cX1_marginBy 50 = .ok (.aload_n 0, 1) := by decide +kernel
theorem dX1_marginBy_51 : decode cX1_marginBy 51 = .ok (.getfield 17, 3) := by decide +kernel
theorem dX1_marginBy_54 : decode cX1_marginBy 54 = .ok (.iload_n 2, 1) := by decide +kernel
theorem dX1_marginBy_55 : decode cX1_marginBy 55 = .ok (.iload_n 3, 1) := by decide +kernel
theorem dX1_marginBy_56 : decode cX1_marginBy 56 = .ok (.invokevirtual 35, 3) := by decide +kernel
theorem dX1_marginBy_59 : decode cX1_marginBy 59 = .ok (.ifCond .eq 15, 3) := by decide +kernel
theorem dX1_marginBy_62 : decode cX1_marginBy 62 = .ok (.iload_n 1, 1) := by decide +kernel
theorem dX1_marginBy_63 : decode cX1_marginBy 63 = .ok (.iconst 1, 1) := by decide +kernel
theorem dX1_marginBy_64 : decode cX1_marginBy 64 = .ok (.if_icmp .ne 7, 3) := by decide +kernel
theorem dX1_marginBy_67 : decode cX1_marginBy 67 = .ok (.iconst 1, 1) := by decide +kernel
theorem dX1_marginBy_68 : decode cX1_marginBy 68 = .ok (.goto 4, 3) := by decide +kernel
theorem dX1_marginBy_71 : decode cX1_marginBy 71 = .ok (.iconst 0, 1) := by decide +kernel
theorem dX1_marginBy_72 : decode cX1_marginBy 72 = .ok (.istore 4, 2) := by decide +kernel
theorem dX1_marginBy_74 : decode cX1_marginBy 74 = .ok (.iload 4, 2) := by decide +kernel
theorem dX1_marginBy_76 : decode cX1_marginBy 76 = .ok (.aload_n 0, 1) := by decide +kernel
theorem dX1_marginBy_77 : decode cX1_marginBy 77 = .ok (.iload_n 2, 1) := by decide +kernel
theorem dX1_marginBy_78 : decode cX1_marginBy 78 = .ok (.iload_n 3, 1) := by decide +kernel
theorem dX1_marginBy_79 : decode cX1_marginBy 79 = .ok (.invokevirtual 39, 3) := by decide +kernel
theorem dX1_marginBy_82 : decode cX1_marginBy 82 = .ok (.imul, 1) := by decide +kernel
theorem dX1_marginBy_83 : decode cX1_marginBy 83 = .ok (.iconst 2, 1) := by decide +kernel
theorem dX1_marginBy_84 : decode cX1_marginBy 84 = .ok (.aload_n 0, 1) := by decide +kernel
theorem dX1_marginBy_85 : decode cX1_marginBy 85 = .ok (.getfield 17, 3) := by decide +kernel
theorem dX1_marginBy_88 : decode cX1_marginBy 88 = .ok (.iload_n 3, 1) := by decide +kernel
theorem dX1_marginBy_89 : decode cX1_marginBy 89 = .ok (.invokevirtual 32, 3) := by decide +kernel
theorem dX1_marginBy_92 : decode cX1_marginBy 92 = .ok (.imul, 1) := by decide +kernel
theorem dX1_marginBy_93 : decode cX1_marginBy 93 = .ok (.iadd, 1) := by decide +kernel
theorem dX1_marginBy_94 : decode cX1_marginBy 94 = .ok (.bipush 8, 2) := by decide +kernel
theorem dX1_marginBy_96 : decode cX1_marginBy 96 = .ok (.invokestatic 29, 3) := by decide +kernel
theorem dX1_marginBy_99 : decode cX1_marginBy 99 = .ok (.ireturn, 1) := by decide +kernel
set_option maxRecDepth 20000 in
theorem ggX1_sideOf_X3_leadOf : GoodIn wsX1_sideOf wsX3_leadOf := goodIn_r _ [6, 7, 13, 14, 15, 16, 17, 18, 19, 20, 21, 22, 23, 24, 25] (by decide +kernel) (by decide +kernel)
set_option maxRecDepth 20000 in
theorem gX1_sideOf_X3_leadOf : GoodIn wsX1_sideOf (wsV RX1 21 RX3 yX3_leadOf wsX3_leadOf) := goodIn_app (goodIn_of _ (by decide +kernel)) ggX1_sideOf_X3_leadOf
set_option maxRecDepth 20000 in
theorem ggX1_sideOf_X10_signOf : GoodIn wsX1_sideOf wsX10_signOf := goodIn_r _ [10] (by decide +kernel) (by decide +kernel)
set_option maxRecDepth 20000 in
theorem gX1_sideOf_X10_signOf_n25 : GoodIn wsX1_sideOf (wsX10_signOf) := ggX1_sideOf_X10_signOf
theorem dX1_sideOf_0 : decode cX1_sideOf 0 = .ok (.iload_n 2, 1) := by decide +kernel
theorem dX1_sideOf_1 : decode cX1_sideOf 1 = .ok (.istore_n 3, 1) := by decide +kernel
theorem dX1_sideOf_2 : decode cX1_sideOf 2 = .ok (.iload_n 3, 1) := by decide +kernel
theorem dX1_sideOf_3 : decode cX1_sideOf 3 = .ok (.ifCond .lt 31, 3) := by decide +kernel
theorem dX1_sideOf_6 : decode cX1_sideOf 6 = .ok (.aload_n 0, 1) := by decide +kernel
theorem dX1_sideOf_7 : decode cX1_sideOf 7 = .ok (.getfield 17, 3) := by decide +kernel
theorem dX1_sideOf_10 : decode cX1_sideOf 10 = .ok (.iload_n 1, 1) := by decide +kernel
theorem dX1_sideOf_11 : decode cX1_sideOf 11 = .ok (.iload_n 3, 1) := by decide +kernel
theorem dX1_sideOf_12 : decode cX1_sideOf 12 = .ok (.invokevirtual 21, 3) := by decide +kernel
theorem dX1_sideOf_15 : decode cX1_sideOf 15 = .ok (.istore 4, 2) := by decide +kernel
theorem dX1_sideOf_17 : decode cX1_sideOf 17 = .ok (.iload 4, 2) := by decide +kernel
theorem dX1_sideOf_19 : decode cX1_sideOf 19 = .ok (.ifCond .eq 9, 3) := by decide +kernel
theorem dX1_sideOf_22 : decode cX1_sideOf 22 = .ok (.iload 4, 2) := by decide +kernel
theorem dX1_sideOf_24 : decode cX1_sideOf 24 = .ok (.invokestatic 25, 3) := by decide +kernel
theorem dX1_sideOf_27 : decode cX1_sideOf 27 = .ok (.ireturn, 1) := by decide +kernel
theorem dX1_sideOf_28 : decode cX1_sideOf 28 = .ok (.iinc 3 (-1), 3) := by decide +kernel
theorem dX1_sideOf_31 : decode cX1_sideOf 31 = .ok (.goto (-29), 3) := by decide +kernel
theorem dX1_sideOf_34 : decode cX1_sideOf 34 = .ok (.iconst 1, 1) := by decide +kernel
theorem dX1_sideOf_35 : decode cX1_sideOf 35 = .ok (.ireturn, 1) := by decide +kernel
set_option maxRecDepth 20000 in
theorem ggX1_cardBy_X3_takenOf : GoodIn wsX1_cardBy wsX3_takenOf := goodIn_r _ [6, 7, 8, 55, 56, 57, 58, 59, 60, 61, 62, 63, 64, 65, 66, 67] (by decide +kernel) (by decide +kernel)
set_option maxRecDepth 20000 in
theorem gX1_cardBy_X3_takenOf : GoodIn wsX1_cardBy (wsV RX1 42 RX3 yX3_takenOf wsX3_takenOf) := goodIn_app (goodIn_of _ (by decide +kernel)) ggX1_cardBy_X3_takenOf
set_option maxRecDepth 20000 in
theorem ggX1_cardBy_X1_marginBy : GoodIn wsX1_cardBy wsX1_marginBy := goodIn_r _ [13, 1, 14, 15, 16, 5, 17, 18, 19, 20, 21, 22, 23, 24, 25, 26, 27, 28, 29, 30, 31, 32, 33, 34, 35, 36, 37, 38, 39, 40, 41, 42, 43, 44, 45, 46, 47, 48, 49, 50, 51, 12, 52, 53, 54, 55, 56, 57, 58, 59, 60, 61, 62, 63, 64, 65, 66, 67] (by decide +kernel) (by decide +kernel)
set_option maxRecDepth 20000 in
theorem gX1_cardBy_X1_marginBy : GoodIn wsX1_cardBy (wsV RX1 49 RX1 yX1_marginBy wsX1_marginBy) := goodIn_app (goodIn_of _ (by decide +kernel)) ggX1_cardBy_X1_marginBy
theorem dX1_cardBy_0 : decode cX1_cardBy 0 = .ok (.iconst 2, 1) := by decide +kernel
theorem dX1_cardBy_1 : decode cX1_cardBy 1 = .ok (.aload_n 0, 1) := by decide +kernel
theorem dX1_cardBy_2 : decode cX1_cardBy 2 = .ok (.getfield 17, 3) := by decide +kernel
theorem dX1_cardBy_5 : decode cX1_cardBy 5 = .ok (.iconst 1, 1) := by decide +kernel
theorem dX1_cardBy_6 : decode cX1_cardBy 6 = .ok (.invokevirtual 42, 3) := by decide +kernel
theorem dX1_cardBy_9 : decode cX1_cardBy 9 = .ok (.aload_n 0, 1) := by decide +kernel
theorem dX1_cardBy_10 : decode cX1_cardBy 10 = .ok (.getfield 17, 3) := by decide +kernel
theorem dX1_cardBy_13 : decode cX1_cardBy 13 = .ok (.iconst 0, 1) := by decide +kernel
theorem dX1_cardBy_14 : decode cX1_cardBy 14 = .ok (.invokevirtual 42, 3) := by decide +kernel
theorem dX1_cardBy_17 : decode cX1_cardBy 17 = .ok (.isub, 1) := by decide +kernel
theorem dX1_cardBy_18 : decode cX1_cardBy 18 = .ok (.imul, 1) := by decide +kernel
theorem dX1_cardBy_19 : decode cX1_cardBy 19 = .ok (.istore_n 3, 1) := by decide +kernel
theorem dX1_cardBy_20 : decode cX1_cardBy 20 = .ok (.iconst 0, 1) := by decide +kernel
theorem dX1_cardBy_21 : decode cX1_cardBy 21 = .ok (.istore 4, 2) := by decide +kernel
theorem dX1_cardBy_23 : decode cX1_cardBy 23 = .ok (.iload 4, 2) := by decide +kernel
theorem dX1_cardBy_25 : decode cX1_cardBy 25 = .ok (.aload_n 0, 1) := by decide +kernel
theorem dX1_cardBy_26 : decode cX1_cardBy 26 = .ok (.getfield 17, 3) := by decide +kernel
theorem dX1_cardBy_29 : decode cX1_cardBy 29 = .ok (.getfield 45, 3) := by decide +kernel
theorem dX1_cardBy_32 : decode cX1_cardBy 32 = .ok (.if_icmp .ge 20, 3) := by decide +kernel
theorem dX1_cardBy_35 : decode cX1_cardBy 35 = .ok (.iload_n 3, 1) := by decide +kernel
theorem dX1_cardBy_36 : decode cX1_cardBy 36 = .ok (.aload_n 0, 1) := by decide +kernel
theorem dX1_cardBy_37 : decode cX1_cardBy 37 = .ok (.iload_n 1, 1) := by decide +kernel
theorem dX1_cardBy_38 : decode cX1_cardBy 38 = .ok (.iload_n 2, 1) := by decide +kernel
theorem dX1_cardBy_39 : decode cX1_cardBy 39 = .ok (.iload 4, 2) := by decide +kernel
theorem dX1_cardBy_41 : decode cX1_cardBy 41 = .ok (.invokevirtual 49, 3) := by decide +kernel
theorem dX1_cardBy_44 : decode cX1_cardBy 44 = .ok (.iadd, 1) := by decide +kernel
theorem dX1_cardBy_45 : decode cX1_cardBy 45 = .ok (.istore_n 3, 1) := by decide +kernel
theorem dX1_cardBy_46 : decode cX1_cardBy 46 = .ok (.iinc 4 1, 3) := by decide +kernel
theorem dX1_cardBy_49 : decode cX1_cardBy 49 = .ok (.goto (-26), 3) := by decide +kernel
theorem dX1_cardBy_52 : decode cX1_cardBy 52 = .ok (.iload_n 3, 1) := by decide +kernel
theorem dX1_cardBy_53 : decode cX1_cardBy 53 = .ok (.ireturn, 1) := by decide +kernel
set_option maxRecDepth 20000 in
theorem ggX1_pointsBy_X3_takenOf : GoodIn wsX1_pointsBy wsX3_takenOf := goodIn_r _ [10, 11, 12, 56, 57, 58, 59, 60, 61, 62, 63, 64, 65, 66, 67, 68] (by decide +kernel) (by decide +kernel)
set_option maxRecDepth 20000 in
theorem gX1_pointsBy_X3_takenOf : GoodIn wsX1_pointsBy (wsV RX1 42 RX3 yX3_takenOf wsX3_takenOf) := goodIn_app (goodIn_of _ (by decide +kernel)) ggX1_pointsBy_X3_takenOf
set_option maxRecDepth 20000 in
theorem ggX1_pointsBy_X1_marginBy : GoodIn wsX1_pointsBy wsX1_marginBy := goodIn_r _ [17, 1, 18, 19, 20, 9, 21, 22, 23, 24, 25, 26, 27, 28, 29, 4, 30, 31, 3, 5, 32, 33, 34, 35, 36, 37, 38, 39, 40, 41, 42, 43, 44, 45, 46, 47, 48, 49, 50, 51, 52, 16, 53, 54, 55, 56, 57, 58, 59, 60, 61, 62, 63, 64, 65, 66, 67, 68] (by decide +kernel) (by decide +kernel)
set_option maxRecDepth 20000 in
theorem gX1_pointsBy_X1_marginBy : GoodIn wsX1_pointsBy (wsV RX1 49 RX1 yX1_marginBy wsX1_marginBy) := goodIn_app (goodIn_of _ (by decide +kernel)) ggX1_pointsBy_X1_marginBy
theorem dX1_pointsBy_0 : decode cX1_pointsBy 0 = .ok (.bipush 20, 2) := by decide +kernel
theorem dX1_pointsBy_2 : decode cX1_pointsBy 2 = .ok (.aload_n 0, 1) := by decide +kernel
theorem dX1_pointsBy_3 : decode cX1_pointsBy 3 = .ok (.getfield 17, 3) := by decide +kernel
theorem dX1_pointsBy_6 : decode cX1_pointsBy 6 = .ok (.getfield 45, 3) := by decide +kernel
theorem dX1_pointsBy_9 : decode cX1_pointsBy 9 = .ok (.imul, 1) := by decide +kernel
theorem dX1_pointsBy_10 : decode cX1_pointsBy 10 = .ok (.iconst 2, 1) := by decide +kernel
theorem dX1_pointsBy_11 : decode cX1_pointsBy 11 = .ok (.aload_n 0, 1) := by decide +kernel
theorem dX1_pointsBy_12 : decode cX1_pointsBy 12 = .ok (.getfield 17, 3) := by decide +kernel
theorem dX1_pointsBy_15 : decode cX1_pointsBy 15 = .ok (.iload_n 3, 1) := by decide +kernel
theorem dX1_pointsBy_16 : decode cX1_pointsBy 16 = .ok (.invokevirtual 42, 3) := by decide +kernel
theorem dX1_pointsBy_19 : decode cX1_pointsBy 19 = .ok (.imul, 1) := by decide +kernel
theorem dX1_pointsBy_20 : decode cX1_pointsBy 20 = .ok (.isub, 1) := by decide +kernel
theorem dX1_pointsBy_21 : decode cX1_pointsBy 21 = .ok (.istore 4, 2) := by decide +kernel
theorem dX1_pointsBy_23 : decode cX1_pointsBy 23 = .ok (.iconst 0, 1) := by decide +kernel
theorem dX1_pointsBy_24 : decode cX1_pointsBy 24 = .ok (.istore 5, 2) := by decide +kernel
theorem dX1_pointsBy_26 : decode cX1_pointsBy 26 = .ok (.iload 5, 2) := by decide +kernel
theorem dX1_pointsBy_28 : decode cX1_pointsBy 28 = .ok (.aload_n 0, 1) := by decide +kernel
theorem dX1_pointsBy_29 : decode cX1_pointsBy 29 = .ok (.getfield 17, 3) := by decide +kernel
theorem dX1_pointsBy_32 : decode cX1_pointsBy 32 = .ok (.getfield 45, 3) := by decide +kernel
theorem dX1_pointsBy_35 : decode cX1_pointsBy 35 = .ok (.if_icmp .ge 40, 3) := by decide +kernel
theorem dX1_pointsBy_38 : decode cX1_pointsBy 38 = .ok (.aload_n 0, 1) := by decide +kernel
theorem dX1_pointsBy_39 : decode cX1_pointsBy 39 = .ok (.iload_n 1, 1) := by decide +kernel
theorem dX1_pointsBy_40 : decode cX1_pointsBy 40 = .ok (.iload_n 2, 1) := by decide +kernel
theorem dX1_pointsBy_41 : decode cX1_pointsBy 41 = .ok (.iload 5, 2) := by decide +kernel
theorem dX1_pointsBy_43 : decode cX1_pointsBy 43 = .ok (.invokevirtual 49, 3) := by decide +kernel
theorem dX1_pointsBy_46 : decode cX1_pointsBy 46 = .ok (.istore 6, 2) := by decide +kernel
theorem dX1_pointsBy_48 : decode cX1_pointsBy 48 = .ok (.iload 4, 2) := by decide +kernel
theorem dX1_pointsBy_50 : decode cX1_pointsBy 50 = .ok (.iconst 0, 1) := by decide +kernel
theorem dX1_pointsBy_51 : decode cX1_pointsBy 51 = .ok (.iload_n 3, 1) := by decide +kernel
theorem dX1_pointsBy_52 : decode cX1_pointsBy 52 = .ok (.ifCond .ne 9, 3) := by decide +kernel
theorem dX1_pointsBy_55 : decode cX1_pointsBy 55 = .ok (.iload 6, 2) := by decide +kernel
theorem dX1_pointsBy_57 : decode cX1_pointsBy 57 = .ok (.ineg, 1) := by decide +kernel
theorem dX1_pointsBy_58 : decode cX1_pointsBy 58 = .ok (.goto 5, 3) := by decide +kernel
theorem dX1_pointsBy_61 : decode cX1_pointsBy 61 = .ok (.iload 6, 2) := by decide +kernel
theorem dX1_pointsBy_63 : decode cX1_pointsBy 63 = .ok (.invokestatic 53, 3) := by decide +kernel
theorem dX1_pointsBy_66 : decode cX1_pointsBy 66 = .ok (.isub, 1) := by decide +kernel
theorem dX1_pointsBy_67 : decode cX1_pointsBy 67 = .ok (.istore 4, 2) := by decide +kernel
theorem dX1_pointsBy_69 : decode cX1_pointsBy 69 = .ok (.iinc 5 1, 3) := by decide +kernel
theorem dX1_pointsBy_72 : decode cX1_pointsBy 72 = .ok (.goto (-46), 3) := by decide +kernel
theorem dX1_pointsBy_75 : decode cX1_pointsBy 75 = .ok (.iload 4, 2) := by decide +kernel
theorem dX1_pointsBy_77 : decode cX1_pointsBy 77 = .ok (.ireturn, 1) := by decide +kernel
theorem dX1_ownerOf_0 : decode cX1_ownerOf 0 = .ok (.iload_n 0, 1) := by decide +kernel
theorem dX1_ownerOf_1 : decode cX1_ownerOf 1 = .ok (.ifCond .ne 5, 3) := by decide +kernel
theorem dX1_ownerOf_4 : decode cX1_ownerOf 4 = .ok (.iconst 2, 1) := by decide +kernel
theorem dX1_ownerOf_5 : decode cX1_ownerOf 5 = .ok (.ireturn, 1) := by decide +kernel
theorem dX1_ownerOf_6 : decode cX1_ownerOf 6 = .ok (.iload_n 0, 1) := by decide +kernel
theorem dX1_ownerOf_7 : decode cX1_ownerOf 7 = .ok (.ifCond .le 7, 3) := by decide +kernel
theorem dX1_ownerOf_10 : decode cX1_ownerOf 10 = .ok (.iconst 0, 1) := by decide +kernel
theorem dX1_ownerOf_11 : decode cX1_ownerOf 11 = .ok (.goto 4, 3) := by decide +kernel
theorem dX1_ownerOf_14 : decode cX1_ownerOf 14 = .ok (.iconst 1, 1) := by decide +kernel
theorem dX1_ownerOf_15 : decode cX1_ownerOf 15 = .ok (.ireturn, 1) := by decide +kernel
theorem dX1_endOf_0 : decode cX1_endOf 0 = .ok (.iload_n 0, 1) := by decide +kernel
theorem dX1_endOf_1 : decode cX1_endOf 1 = .ok (.iload_n 1, 1) := by decide +kernel
theorem dX1_endOf_2 : decode cX1_endOf 2 = .ok (.if_icmp .eq 8, 3) := by decide +kernel
theorem dX1_endOf_5 : decode cX1_endOf 5 = .ok (.iload_n 0, 1) := by decide +kernel
theorem dX1_endOf_6 : decode cX1_endOf 6 = .ok (.iload_n 2, 1) := by decide +kernel
theorem dX1_endOf_7 : decode cX1_endOf 7 = .ok (.if_icmp .ne 5, 3) := by decide +kernel
theorem dX1_endOf_10 : decode cX1_endOf 10 = .ok (.iload_n 0, 1) := by decide +kernel
theorem dX1_endOf_11 : decode cX1_endOf 11 = .ok (.ireturn, 1) := by decide +kernel
theorem dX1_endOf_12 : decode cX1_endOf 12 = .ok (.iload_n 1, 1) := by decide +kernel
theorem dX1_endOf_13 : decode cX1_endOf 13 = .ok (.iload_n 2, 1) := by decide +kernel
theorem dX1_endOf_14 : decode cX1_endOf 14 = .ok (.if_icmp .ne 7, 3) := by decide +kernel
theorem dX1_endOf_17 : decode cX1_endOf 17 = .ok (.iload_n 1, 1) := by decide +kernel
theorem dX1_endOf_18 : decode cX1_endOf 18 = .ok (.goto 4, 3) := by decide +kernel
theorem dX1_endOf_21 : decode cX1_endOf 21 = .ok (.iconst 2, 1) := by decide +kernel
theorem dX1_endOf_22 : decode cX1_endOf 22 = .ok (.ireturn, 1) := by decide +kernel
set_option maxRecDepth 20000 in
theorem ggX1_kindOf_X1_endOf : GoodIn wsX1_kindOf wsX1_endOf := goodIn_r _ [4] (by decide +kernel) (by decide +kernel)
set_option maxRecDepth 20000 in
theorem gX1_kindOf_X1_endOf : GoodIn wsX1_kindOf (va_wsS RX1 58 yX1_endOf wsX1_endOf) := goodIn_app (goodIn_of _ (by decide +kernel)) ggX1_kindOf_X1_endOf
theorem dX1_kindOf_0 : decode cX1_kindOf 0 = .ok (.iload_n 0, 1) := by decide +kernel
theorem dX1_kindOf_1 : decode cX1_kindOf 1 = .ok (.iload_n 1, 1) := by decide +kernel
theorem dX1_kindOf_2 : decode cX1_kindOf 2 = .ok (.if_icmp .ne 10, 3) := by decide +kernel
theorem dX1_kindOf_5 : decode cX1_kindOf 5 = .ok (.iload_n 1, 1) := by decide +kernel
theorem dX1_kindOf_6 : decode cX1_kindOf 6 = .ok (.iload_n 2, 1) := by decide +kernel
theorem dX1_kindOf_7 : decode cX1_kindOf 7 = .ok (.if_icmp .ne 5, 3) := by decide +kernel
theorem dX1_kindOf_10 : decode cX1_kindOf 10 = .ok (.iconst 0, 1) := by decide +kernel
theorem dX1_kindOf_11 : decode cX1_kindOf 11 = .ok (.ireturn, 1) := by decide +kernel
theorem dX1_kindOf_12 : decode cX1_kindOf 12 = .ok (.iload_n 0, 1) := by decide +kernel
theorem dX1_kindOf_13 : decode cX1_kindOf 13 = .ok (.iload_n 1, 1) := by decide +kernel
theorem dX1_kindOf_14 : decode cX1_kindOf 14 = .ok (.iload_n 2, 1) := by decide +kernel
theorem dX1_kindOf_15 : decode cX1_kindOf 15 = .ok (.invokestatic 58, 3) := by decide +kernel
theorem dX1_kindOf_18 : decode cX1_kindOf 18 = .ok (.iconst 2, 1) := by decide +kernel
theorem dX1_kindOf_19 : decode cX1_kindOf 19 = .ok (.if_icmp .ne 5, 3) := by decide +kernel
theorem dX1_kindOf_22 : decode cX1_kindOf 22 = .ok (.iconst 3, 1) := by decide +kernel
theorem dX1_kindOf_23 : decode cX1_kindOf 23 = .ok (.ireturn, 1) := by decide +kernel
theorem dX1_kindOf_24 : decode cX1_kindOf 24 = .ok (.iload_n 0, 1) := by decide +kernel
theorem dX1_kindOf_25 : decode cX1_kindOf 25 = .ok (.iconst 2, 1) := by decide +kernel
theorem dX1_kindOf_26 : decode cX1_kindOf 26 = .ok (.if_icmp .eq 13, 3) := by decide +kernel
theorem dX1_kindOf_29 : decode cX1_kindOf 29 = .ok (.iload_n 1, 1) := by decide +kernel
theorem dX1_kindOf_30 : decode cX1_kindOf 30 = .ok (.iconst 2, 1) := by decide +kernel
theorem dX1_kindOf_31 : decode cX1_kindOf 31 = .ok (.if_icmp .eq 8, 3) := by decide +kernel
theorem dX1_kindOf_34 : decode cX1_kindOf 34 = .ok (.iload_n 2, 1) := by decide +kernel
theorem dX1_kindOf_35 : decode cX1_kindOf 35 = .ok (.iconst 2, 1) := by decide +kernel
theorem dX1_kindOf_36 : decode cX1_kindOf 36 = .ok (.if_icmp .ne 7, 3) := by decide +kernel
theorem dX1_kindOf_39 : decode cX1_kindOf 39 = .ok (.iconst 1, 1) := by decide +kernel
theorem dX1_kindOf_40 : decode cX1_kindOf 40 = .ok (.goto 4, 3) := by decide +kernel
theorem dX1_kindOf_43 : decode cX1_kindOf 43 = .ok (.iconst 2, 1) := by decide +kernel
theorem dX1_kindOf_44 : decode cX1_kindOf 44 = .ok (.ireturn, 1) := by decide +kernel
set_option maxRecDepth 20000 in
theorem ggX1_setsThatEnd_X1_cardBy : GoodIn wsX1_setsThatEnd wsX1_cardBy := goodIn_r _ [7, 1, 8, 9, 10, 11, 12, 13, 14, 15, 16, 17, 6, 18, 19, 20, 21, 22, 23, 24, 25, 26, 27, 28, 29, 30, 31, 32, 33, 34, 35, 36, 37, 38, 39, 40, 41, 42, 43, 44, 45, 46, 47, 48, 49, 50, 51, 52, 53, 54, 55, 56, 57, 64, 65, 66, 67, 68, 69, 70, 71, 72, 73, 74, 75, 76, 77, 78] (by decide +kernel) (by decide +kernel)
set_option maxRecDepth 20000 in
theorem gX1_setsThatEnd_X1_cardBy : GoodIn wsX1_setsThatEnd (wsV RX1 64 RX1 yX1_cardBy wsX1_cardBy) := goodIn_app (goodIn_of _ (by decide +kernel)) ggX1_setsThatEnd_X1_cardBy
set_option maxRecDepth 20000 in
theorem ggX1_setsThatEnd_X1_ownerOf : GoodIn wsX1_setsThatEnd wsX1_ownerOf := goodIn_r _ [60] (by decide +kernel) (by decide +kernel)
set_option maxRecDepth 20000 in
theorem gX1_setsThatEnd_X1_ownerOf : GoodIn wsX1_setsThatEnd (va_wsS RX1 67 yX1_ownerOf wsX1_ownerOf) := goodIn_app (goodIn_of _ (by decide +kernel)) ggX1_setsThatEnd_X1_ownerOf
set_option maxRecDepth 20000 in
theorem ggX1_setsThatEnd_X1_endOf : GoodIn wsX1_setsThatEnd wsX1_endOf := goodIn_r _ [63] (by decide +kernel) (by decide +kernel)
set_option maxRecDepth 20000 in
theorem gX1_setsThatEnd_X1_endOf : GoodIn wsX1_setsThatEnd (va_wsS RX1 58 yX1_endOf wsX1_endOf) := goodIn_app (goodIn_of _ (by decide +kernel)) ggX1_setsThatEnd_X1_endOf
theorem dX1_setsThatEnd_0 : decode cX1_setsThatEnd 0 = .ok (.iconst 0, 1) := by decide +kernel
theorem dX1_setsThatEnd_1 : decode cX1_setsThatEnd 1 = .ok (.istore_n 3, 1) := by decide +kernel
theorem dX1_setsThatEnd_2 : decode cX1_setsThatEnd 2 = .ok (.iload_n 3, 1) := by decide +kernel
theorem dX1_setsThatEnd_3 : decode cX1_setsThatEnd 3 = .ok (.aload_n 0, 1) := by decide +kernel
theorem dX1_setsThatEnd_4 : decode cX1_setsThatEnd 4 = .ok (.getfield 17, 3) := by decide +kernel
theorem dX1_setsThatEnd_7 : decode cX1_setsThatEnd 7 = .ok (.getfield 61, 3) := by decide +kernel
theorem dX1_setsThatEnd_10 : decode cX1_setsThatEnd 10 = .ok (.if_icmp .ge 24, 3) := by decide +kernel
theorem dX1_setsThatEnd_13 : decode cX1_setsThatEnd 13 = .ok (.aload_n 0, 1) := by decide +kernel
theorem dX1_setsThatEnd_14 : decode cX1_setsThatEnd 14 = .ok (.getfield 11, 3) := by decide +kernel
theorem dX1_setsThatEnd_17 : decode cX1_setsThatEnd 17 = .ok (.iload_n 3, 1) := by decide +kernel
theorem dX1_setsThatEnd_18 : decode cX1_setsThatEnd 18 = .ok (.aload_n 0, 1) := by decide +kernel
theorem dX1_setsThatEnd_19 : decode cX1_setsThatEnd 19 = .ok (.iload_n 1, 1) := by decide +kernel
theorem dX1_setsThatEnd_20 : decode cX1_setsThatEnd 20 = .ok (.iload_n 3, 1) := by decide +kernel
theorem dX1_setsThatEnd_21 : decode cX1_setsThatEnd 21 = .ok (.invokevirtual 64, 3) := by decide +kernel
theorem dX1_setsThatEnd_24 : decode cX1_setsThatEnd 24 = .ok (.invokestatic 67, 3) := by decide +kernel
theorem dX1_setsThatEnd_27 : decode cX1_setsThatEnd 27 = .ok (.iastore, 1) := by decide +kernel
theorem dX1_setsThatEnd_28 : decode cX1_setsThatEnd 28 = .ok (.iinc 3 1, 3) := by decide +kernel
theorem dX1_setsThatEnd_31 : decode cX1_setsThatEnd 31 = .ok (.goto (-29), 3) := by decide +kernel
theorem dX1_setsThatEnd_34 : decode cX1_setsThatEnd 34 = .ok (.iconst 0, 1) := by decide +kernel
theorem dX1_setsThatEnd_35 : decode cX1_setsThatEnd 35 = .ok (.istore_n 3, 1) := by decide +kernel
theorem dX1_setsThatEnd_36 : decode cX1_setsThatEnd 36 = .ok (.iconst 0, 1) := by decide +kernel
theorem dX1_setsThatEnd_37 : decode cX1_setsThatEnd 37 = .ok (.istore 4, 2) := by decide +kernel
theorem dX1_setsThatEnd_39 : decode cX1_setsThatEnd 39 = .ok (.iload 4, 2) := by decide +kernel
theorem dX1_setsThatEnd_41 : decode cX1_setsThatEnd 41 = .ok (.aload_n 0, 1) := by decide +kernel
theorem dX1_setsThatEnd_42 : decode cX1_setsThatEnd 42 = .ok (.getfield 17, 3) := by decide +kernel
theorem dX1_setsThatEnd_45 : decode cX1_setsThatEnd 45 = .ok (.getfield 61, 3) := by decide +kernel
theorem dX1_setsThatEnd_48 : decode cX1_setsThatEnd 48 = .ok (.if_icmp .ge 93, 3) := by decide +kernel
theorem dX1_setsThatEnd_51 : decode cX1_setsThatEnd 51 = .ok (.iload 4, 2) := by decide +kernel
theorem dX1_setsThatEnd_53 : decode cX1_setsThatEnd 53 = .ok (.iconst 1, 1) := by decide +kernel
theorem dX1_setsThatEnd_54 : decode cX1_setsThatEnd 54 = .ok (.iadd, 1) := by decide +kernel
theorem dX1_setsThatEnd_55 : decode cX1_setsThatEnd 55 = .ok (.istore 5, 2) := by decide +kernel
theorem dX1_setsThatEnd_57 : decode cX1_setsThatEnd 57 = .ok (.iload 5, 2) := by decide +kernel
theorem dX1_setsThatEnd_59 : decode cX1_setsThatEnd 59 = .ok (.aload_n 0, 1) := by decide +kernel
theorem dX1_setsThatEnd_60 : decode cX1_setsThatEnd 60 = .ok (.getfield 17, 3) := by decide +kernel
theorem dX1_setsThatEnd_63 : decode cX1_setsThatEnd 63 = .ok (.getfield 61, 3) := by decide +kernel
theorem dX1_setsThatEnd_66 : decode cX1_setsThatEnd 66 = .ok (.if_icmp .ge 69, 3) := by decide +kernel
theorem dX1_setsThatEnd_69 : decode cX1_setsThatEnd 69 = .ok (.iload 5, 2) := by decide +kernel
theorem dX1_setsThatEnd_71 : decode cX1_setsThatEnd 71 = .ok (.iconst 1, 1) := by decide +kernel
theorem dX1_setsThatEnd_72 : decode cX1_setsThatEnd 72 = .ok (.iadd, 1) := by decide +kernel
theorem dX1_setsThatEnd_73 : decode cX1_setsThatEnd 73 = .ok (.istore 6, 2) := by decide +kernel
theorem dX1_setsThatEnd_75 : decode cX1_setsThatEnd 75 = .ok (.iload 6, 2) := by decide +kernel
theorem dX1_setsThatEnd_77 : decode cX1_setsThatEnd 77 = .ok (.aload_n 0, 1) := by decide +kernel
theorem dX1_setsThatEnd_78 : decode cX1_setsThatEnd 78 = .ok (.getfield 17, 3) := by decide +kernel
theorem dX1_setsThatEnd_81 : decode cX1_setsThatEnd 81 = .ok (.getfield 61, 3) := by decide +kernel
theorem dX1_setsThatEnd_84 : decode cX1_setsThatEnd 84 = .ok (.if_icmp .ge 45, 3) := by decide +kernel
theorem dX1_setsThatEnd_87 : decode cX1_setsThatEnd 87 = .ok (.iload_n 3, 1) := by decide +kernel
theorem dX1_setsThatEnd_88 : decode cX1_setsThatEnd 88 = .ok (.aload_n 0, 1) := by decide +kernel
theorem dX1_setsThatEnd_89 : decode cX1_setsThatEnd 89 = .ok (.getfield 11, 3) := by decide +kernel
theorem dX1_setsThatEnd_92 : decode cX1_setsThatEnd 92 = .ok (.iload 4, 2) := by decide +kernel
theorem dX1_setsThatEnd_94 : decode cX1_setsThatEnd 94 = .ok (.iaload, 1) := by decide +kernel
theorem dX1_setsThatEnd_95 : decode cX1_setsThatEnd 95 = .ok (.aload_n 0, 1) := by decide +kernel
theorem dX1_setsThatEnd_96 : decode cX1_setsThatEnd 96 = .ok (.getfield 11, 3) := by decide +kernel
theorem dX1_setsThatEnd_99 : decode cX1_setsThatEnd 99 = .ok (.iload 5, 2) := by decide +kernel
theorem dX1_setsThatEnd_101 : decode cX1_setsThatEnd 101 = .ok (.iaload, 1) := by decide +kernel
theorem dX1_setsThatEnd_102 : decode cX1_setsThatEnd 102 = .ok (.aload_n 0, 1) := by decide +kernel
theorem dX1_setsThatEnd_103 : decode cX1_setsThatEnd 103 = .ok (.getfield 11, 3) := by decide +kernel
theorem dX1_setsThatEnd_106 : decode cX1_setsThatEnd 106 = .ok (.iload 6, 2) := by decide +kernel
theorem dX1_setsThatEnd_108 : decode cX1_setsThatEnd 108 = .ok (.iaload, 1) := by decide +kernel
theorem dX1_setsThatEnd_109 : decode cX1_setsThatEnd 109 = .ok (.invokestatic 58, 3) := by decide +kernel
theorem dX1_setsThatEnd_112 : decode cX1_setsThatEnd 112 = .ok (.iload_n 2, 1) := by decide +kernel
theorem dX1_setsThatEnd_113 : decode cX1_setsThatEnd 113 = .ok (.if_icmp .ne 7, 3) := by decide +kernel
theorem dX1_setsThatEnd_116 : decode cX1_setsThatEnd 116 = .ok (.iconst 1, 1) := by decide +kernel
theorem dX1_setsThatEnd_117 : decode cX1_setsThatEnd 117 = .ok (.goto 4, 3) := by decide +kernel
theorem dX1_setsThatEnd_120 : decode cX1_setsThatEnd 120 = .ok (.iconst 0, 1) := by decide +kernel
theorem dX1_setsThatEnd_121 : decode cX1_setsThatEnd 121 = .ok (.iadd, 1) := by decide +kernel
theorem dX1_setsThatEnd_122 : decode cX1_setsThatEnd 122 = .ok (.istore_n 3, 1) := by decide +kernel
theorem dX1_setsThatEnd_123 : decode cX1_setsThatEnd 123 = .ok (.iinc 6 1, 3) := by decide +kernel
theorem dX1_setsThatEnd_126 : decode cX1_setsThatEnd 126 = .ok (.goto (-51), 3) := by decide +kernel
theorem dX1_setsThatEnd_129 : decode cX1_setsThatEnd 129 = .ok (.iinc 5 1, 3) := by decide +kernel
theorem dX1_setsThatEnd_132 : decode cX1_setsThatEnd 132 = .ok (.goto (-75), 3) := by decide +kernel
theorem dX1_setsThatEnd_135 : decode cX1_setsThatEnd 135 = .ok (.iinc 4 1, 3) := by decide +kernel
theorem dX1_setsThatEnd_138 : decode cX1_setsThatEnd 138 = .ok (.goto (-99), 3) := by decide +kernel
theorem dX1_setsThatEnd_141 : decode cX1_setsThatEnd 141 = .ok (.iload_n 3, 1) := by decide +kernel
theorem dX1_setsThatEnd_142 : decode cX1_setsThatEnd 142 = .ok (.ireturn, 1) := by decide +kernel
set_option maxRecDepth 20000 in
theorem ggX1_judgesAgainstHardness_X3_hardnessFor : GoodIn wsX1_judgesAgainstHardness wsX3_hardnessFor := goodIn_r _ [6, 7, 8, 9, 10, 5, 11, 12, 13, 14, 15, 16, 17, 76, 77, 78, 79, 80, 81, 82, 83, 84, 85, 86, 87, 88] (by decide +kernel) (by decide +kernel)
set_option maxRecDepth 20000 in
theorem gX1_judgesAgainstHardness_X3_hardnessFor : GoodIn wsX1_judgesAgainstHardness (wsV RX1 70 RX3 yX3_hardnessFor wsX3_hardnessFor) := goodIn_app (goodIn_of _ (by decide +kernel)) ggX1_judgesAgainstHardness_X3_hardnessFor
set_option maxRecDepth 20000 in
theorem ggX1_judgesAgainstHardness_X1_ownerOf : GoodIn wsX1_judgesAgainstHardness wsX1_ownerOf := goodIn_r _ [21] (by decide +kernel) (by decide +kernel)
set_option maxRecDepth 20000 in
theorem gX1_judgesAgainstHardness_X1_ownerOf : GoodIn wsX1_judgesAgainstHardness (va_wsS RX1 67 yX1_ownerOf wsX1_ownerOf) := goodIn_app (goodIn_of _ (by decide +kernel)) ggX1_judgesAgainstHardness_X1_ownerOf
set_option maxRecDepth 20000 in
theorem ggX1_judgesAgainstHardness_X1_cardBy : GoodIn wsX1_judgesAgainstHardness wsX1_cardBy := goodIn_r _ [25, 1, 26, 27, 28, 5, 29, 12, 30, 31, 32, 33, 20, 34, 35, 36, 37, 38, 39, 40, 41, 42, 43, 44, 45, 46, 47, 48, 49, 50, 51, 52, 53, 54, 55, 56, 57, 58, 59, 60, 61, 62, 63, 64, 65, 66, 67, 68, 69, 70, 71, 72, 73, 74, 75, 76, 77, 78, 79, 80, 81, 82, 83, 84, 85, 86, 87, 88] (by decide +kernel) (by decide +kernel)
set_option maxRecDepth 20000 in
theorem gX1_judgesAgainstHardness_X1_cardBy : GoodIn wsX1_judgesAgainstHardness (wsV RX1 64 RX1 yX1_cardBy wsX1_cardBy) := goodIn_app (goodIn_of _ (by decide +kernel)) ggX1_judgesAgainstHardness_X1_cardBy
theorem dX1_judgesAgainstHardness_0 : decode cX1_judgesAgainstHardness 0 = .ok (.aload_n 0, 1) := by decide +kernel
theorem dX1_judgesAgainstHardness_1 : decode cX1_judgesAgainstHardness 1 = .ok (.getfield 17, 3) := by decide +kernel
theorem dX1_judgesAgainstHardness_4 : decode cX1_judgesAgainstHardness 4 = .ok (.invokevirtual 70, 3) := by decide +kernel
theorem dX1_judgesAgainstHardness_7 : decode cX1_judgesAgainstHardness 7 = .ok (.invokestatic 67, 3) := by decide +kernel
theorem dX1_judgesAgainstHardness_10 : decode cX1_judgesAgainstHardness 10 = .ok (.istore_n 2, 1) := by decide +kernel
theorem dX1_judgesAgainstHardness_11 : decode cX1_judgesAgainstHardness 11 = .ok (.iconst 0, 1) := by decide +kernel
theorem dX1_judgesAgainstHardness_12 : decode cX1_judgesAgainstHardness 12 = .ok (.istore_n 3, 1) := by decide +kernel
theorem dX1_judgesAgainstHardness_13 : decode cX1_judgesAgainstHardness 13 = .ok (.iconst 0, 1) := by decide +kernel
theorem dX1_judgesAgainstHardness_14 : decode cX1_judgesAgainstHardness 14 = .ok (.istore 4, 2) := by decide +kernel
theorem dX1_judgesAgainstHardness_16 : decode cX1_judgesAgainstHardness 16 = .ok (.iload 4, 2) := by decide +kernel
theorem dX1_judgesAgainstHardness_18 : decode cX1_judgesAgainstHardness 18 = .ok (.aload_n 0, 1) := by decide +kernel
theorem dX1_judgesAgainstHardness_19 : decode cX1_judgesAgainstHardness 19 = .ok (.getfield 17, 3) := by decide +kernel
theorem dX1_judgesAgainstHardness_22 : decode cX1_judgesAgainstHardness 22 = .ok (.getfield 61, 3) := by decide +kernel
theorem dX1_judgesAgainstHardness_25 : decode cX1_judgesAgainstHardness 25 = .ok (.if_icmp .ge 45, 3) := by decide +kernel
theorem dX1_judgesAgainstHardness_28 : decode cX1_judgesAgainstHardness 28 = .ok (.aload_n 0, 1) := by decide +kernel
theorem dX1_judgesAgainstHardness_29 : decode cX1_judgesAgainstHardness 29 = .ok (.iload_n 1, 1) := by decide +kernel
theorem dX1_judgesAgainstHardness_30 : decode cX1_judgesAgainstHardness 30 = .ok (.iload 4, 2) := by decide +kernel
theorem dX1_judgesAgainstHardness_32 : decode cX1_judgesAgainstHardness 32 = .ok (.invokevirtual 64, 3) := by decide +kernel
theorem dX1_judgesAgainstHardness_35 : decode cX1_judgesAgainstHardness 35 = .ok (.invokestatic 67, 3) := by decide +kernel
theorem dX1_judgesAgainstHardness_38 : decode cX1_judgesAgainstHardness 38 = .ok (.istore 5, 2) := by decide +kernel
theorem dX1_judgesAgainstHardness_40 : decode cX1_judgesAgainstHardness 40 = .ok (.iload_n 2, 1) := by decide +kernel
theorem dX1_judgesAgainstHardness_41 : decode cX1_judgesAgainstHardness 41 = .ok (.iconst 2, 1) := by decide +kernel
theorem dX1_judgesAgainstHardness_42 : decode cX1_judgesAgainstHardness 42 = .ok (.if_icmp .eq 22, 3) := by decide +kernel
theorem dX1_judgesAgainstHardness_45 : decode cX1_judgesAgainstHardness 45 = .ok (.iload 5, 2) := by decide +kernel
theorem dX1_judgesAgainstHardness_47 : decode cX1_judgesAgainstHardness 47 = .ok (.iconst 2, 1) := by decide +kernel
theorem dX1_judgesAgainstHardness_48 : decode cX1_judgesAgainstHardness 48 = .ok (.if_icmp .eq 16, 3) := by decide +kernel
theorem dX1_judgesAgainstHardness_51 : decode cX1_judgesAgainstHardness 51 = .ok (.iload 5, 2) := by decide +kernel
theorem dX1_judgesAgainstHardness_53 : decode cX1_judgesAgainstHardness 53 = .ok (.iload_n 2, 1) := by decide +kernel
theorem dX1_judgesAgainstHardness_54 : decode cX1_judgesAgainstHardness 54 = .ok (.if_icmp .eq 10, 3) := by decide +kernel
theorem dX1_judgesAgainstHardness_57 : decode cX1_judgesAgainstHardness 57 = .ok (.iload_n 3, 1) := by decide +kernel
theorem dX1_judgesAgainstHardness_58 : decode cX1_judgesAgainstHardness 58 = .ok (.iconst 1, 1) := by decide +kernel
theorem dX1_judgesAgainstHardness_59 : decode cX1_judgesAgainstHardness 59 = .ok (.iload 4, 2) := by decide +kernel
theorem dX1_judgesAgainstHardness_61 : decode cX1_judgesAgainstHardness 61 = .ok (.ishl, 1) := by decide +kernel
theorem dX1_judgesAgainstHardness_62 : decode cX1_judgesAgainstHardness 62 = .ok (.ior, 1) := by decide +kernel
theorem dX1_judgesAgainstHardness_63 : decode cX1_judgesAgainstHardness 63 = .ok (.istore_n 3, 1) := by decide +kernel
theorem dX1_judgesAgainstHardness_64 : decode cX1_judgesAgainstHardness 64 = .ok (.iinc 4 1, 3) := by decide +kernel
theorem dX1_judgesAgainstHardness_67 : decode cX1_judgesAgainstHardness 67 = .ok (.goto (-51), 3) := by decide +kernel
theorem dX1_judgesAgainstHardness_70 : decode cX1_judgesAgainstHardness 70 = .ok (.iload_n 3, 1) := by decide +kernel
theorem dX1_judgesAgainstHardness_71 : decode cX1_judgesAgainstHardness 71 = .ok (.ireturn, 1) := by decide +kernel
theorem dX2_init_0 : decode cX2_init 0 = .ok (.aload_n 0, 1) := by decide +kernel
theorem dX2_init_1 : decode cX2_init 1 = .ok (.invokespecial 3, 3) := by decide +kernel
theorem dX2_init_4 : decode cX2_init 4 = .ok (.aload_n 0, 1) := by decide +kernel
theorem dX2_init_5 : decode cX2_init 5 = .ok (.bipush 9, 2) := by decide +kernel
theorem dX2_init_7 : decode cX2_init 7 = .ok (.newarray .long, 2) := by decide +kernel
theorem dX2_init_9 : decode cX2_init 9 = .ok (.putfield 9, 3) := by decide +kernel
theorem dX2_init_12 : decode cX2_init 12 = .ok (.aload_n 0, 1) := by decide +kernel
theorem dX2_init_13 : decode cX2_init 13 = .ok (.iconst 0, 1) := by decide +kernel
theorem dX2_init_14 : decode cX2_init 14 = .ok (.putfield 15, 3) := by decide +kernel
theorem dX2_init_17 : decode cX2_init 17 = .ok (.aload_n 0, 1) := by decide +kernel
theorem dX2_init_18 : decode cX2_init 18 = .ok (.aload_n 1, 1) := by decide +kernel
theorem dX2_init_19 : decode cX2_init 19 = .ok (.putfield 19, 3) := by decide +kernel
theorem dX2_init_22 : decode cX2_init 22 = .ok (.aload_n 0, 1) := by decide +kernel
theorem dX2_init_23 : decode cX2_init 23 = .ok (.aload_n 2, 1) := by decide +kernel
theorem dX2_init_24 : decode cX2_init 24 = .ok (.putfield 23, 3) := by decide +kernel
theorem dX2_init_27 : decode cX2_init 27 = .ok (.return_, 1) := by decide +kernel
set_option maxRecDepth 20000 in
theorem ggX2_toss_J7_fill_d0a16 : GoodIn wsX2_toss wsJ7_fill_d0a16 := goodIn_r _ [6] (by decide +kernel) (by decide +kernel)
set_option maxRecDepth 20000 in
theorem gX2_toss_J7_fill_d0a16 : GoodIn wsX2_toss (va_wsS RX2 27 yJ7_fill_d0a16 wsJ7_fill_d0a16) := goodIn_app (goodIn_of _ (by decide +kernel)) ggX2_toss_J7_fill_d0a16
set_option maxRecDepth 20000 in
theorem ggX2_toss_X2_tossOne : GoodIn wsX2_toss wsX2_tossOne := goodIn_r _ [11, 12, 2, 13, 1, 14, 15, 16, 17, 18, 19, 20, 21, 22, 23, 24, 25, 26, 27, 28, 29, 30, 31, 32, 33, 34, 35, 36, 37, 38, 39, 40, 41, 42, 43, 44, 45, 46, 47, 48, 49, 50, 51, 52, 53, 54, 55, 56, 57, 58, 59, 60, 61, 62, 63, 64, 65, 66, 67, 68, 69, 70, 71, 72, 73, 74, 75, 76, 77, 78, 79, 80, 81, 82, 83, 84, 85, 86, 87, 88, 89, 90, 91, 92] (by decide +kernel) (by decide +kernel)
set_option maxRecDepth 20000 in
theorem gX2_toss_X2_tossOne : GoodIn wsX2_toss (wsV RX2 33 RX2 yX2_tossOne wsX2_tossOne) := goodIn_app (goodIn_of _ (by decide +kernel)) ggX2_toss_X2_tossOne
theorem dX2_toss_0 : decode cX2_toss 0 = .ok (.aload_n 0, 1) := by decide +kernel
theorem dX2_toss_1 : decode cX2_toss 1 = .ok (.getfield 9, 3) := by decide +kernel
theorem dX2_toss_4 : decode cX2_toss 4 = .ok (.lconst 0, 1) := by decide +kernel
theorem dX2_toss_5 : decode cX2_toss 5 = .ok (.invokestatic 27, 3) := by decide +kernel
theorem dX2_toss_8 : decode cX2_toss 8 = .ok (.aload_n 0, 1) := by decide +kernel
theorem dX2_toss_9 : decode cX2_toss 9 = .ok (.iconst 0, 1) := by decide +kernel
theorem dX2_toss_10 : decode cX2_toss 10 = .ok (.putfield 15, 3) := by decide +kernel
theorem dX2_toss_13 : decode cX2_toss 13 = .ok (.aload_n 0, 1) := by decide +kernel
theorem dX2_toss_14 : decode cX2_toss 14 = .ok (.iload_n 1, 1) := by decide +kernel
theorem dX2_toss_15 : decode cX2_toss 15 = .ok (.iload_n 2, 1) := by decide +kernel
theorem dX2_toss_16 : decode cX2_toss 16 = .ok (.iconst 0, 1) := by decide +kernel
theorem dX2_toss_17 : decode cX2_toss 17 = .ok (.invokevirtual 33, 3) := by decide +kernel
theorem dX2_toss_20 : decode cX2_toss 20 = .ok (.aload_n 0, 1) := by decide +kernel
theorem dX2_toss_21 : decode cX2_toss 21 = .ok (.iload_n 1, 1) := by decide +kernel
theorem dX2_toss_22 : decode cX2_toss 22 = .ok (.iload_n 3, 1) := by decide +kernel
theorem dX2_toss_23 : decode cX2_toss 23 = .ok (.iconst 3, 1) := by decide +kernel
theorem dX2_toss_24 : decode cX2_toss 24 = .ok (.invokevirtual 33, 3) := by decide +kernel
theorem dX2_toss_27 : decode cX2_toss 27 = .ok (.aload_n 0, 1) := by decide +kernel
theorem dX2_toss_28 : decode cX2_toss 28 = .ok (.iload_n 1, 1) := by decide +kernel
theorem dX2_toss_29 : decode cX2_toss 29 = .ok (.iload 4, 2) := by decide +kernel
theorem dX2_toss_31 : decode cX2_toss 31 = .ok (.bipush 6, 2) := by decide +kernel
theorem dX2_toss_33 : decode cX2_toss 33 = .ok (.invokevirtual 33, 3) := by decide +kernel
theorem dX2_toss_36 : decode cX2_toss 36 = .ok (.return_, 1) := by decide +kernel
set_option maxRecDepth 20000 in
theorem ggX2_tossOne_X3_isClose : GoodIn wsX2_tossOne wsX3_isClose := goodIn_r _ [9, 10, 11, 12, 13, 14, 15, 16, 8, 17, 18, 19, 20, 21, 22, 23, 69, 70, 71, 72, 73, 74, 75, 76, 77, 78, 79, 80, 81] (by decide +kernel) (by decide +kernel)
set_option maxRecDepth 20000 in
theorem gX2_tossOne_X3_isClose : GoodIn wsX2_tossOne (wsV RX2 42 RX3 yX3_isClose wsX3_isClose) := goodIn_app (goodIn_of _ (by decide +kernel)) ggX2_tossOne_X3_isClose
set_option maxRecDepth 20000 in
theorem ggX2_tossOne_X1_cardBy : GoodIn wsX2_tossOne wsX1_cardBy := goodIn_r _ [28, 29, 30, 31, 32, 8, 33, 34, 35, 36, 37, 38, 27, 39, 40, 15, 16, 17, 18, 41, 42, 43, 44, 45, 46, 47, 12, 48, 49, 50, 51, 52, 53, 54, 55, 56, 57, 6, 7, 9, 10, 11, 13, 14, 19, 20, 21, 22, 23, 58, 59, 60, 61, 82, 83, 69, 70, 71, 72, 73, 74, 75, 76, 77, 78, 79, 80, 81] (by decide +kernel) (by decide +kernel)
set_option maxRecDepth 20000 in
theorem gX2_tossOne_X1_cardBy : GoodIn wsX2_tossOne (wsV RX2 46 RX1 yX1_cardBy wsX1_cardBy) := goodIn_app (goodIn_of _ (by decide +kernel)) ggX2_tossOne_X1_cardBy
set_option maxRecDepth 20000 in
theorem ggX2_tossOne_X1_ownerOf : GoodIn wsX2_tossOne wsX1_ownerOf := goodIn_r _ [64] (by decide +kernel) (by decide +kernel)
set_option maxRecDepth 20000 in
theorem gX2_tossOne_X1_ownerOf : GoodIn wsX2_tossOne (va_wsS RX2 52 yX1_ownerOf wsX1_ownerOf) := goodIn_app (goodIn_of _ (by decide +kernel)) ggX2_tossOne_X1_ownerOf
theorem dX2_tossOne_0 : decode cX2_tossOne 0 = .ok (.iconst 0, 1) := by decide +kernel
theorem dX2_tossOne_1 : decode cX2_tossOne 1 = .ok (.istore 4, 2) := by decide +kernel
theorem dX2_tossOne_3 : decode cX2_tossOne 3 = .ok (.iconst 0, 1) := by decide +kernel
theorem dX2_tossOne_4 : decode cX2_tossOne 4 = .ok (.istore 5, 2) := by decide +kernel
theorem dX2_tossOne_6 : decode cX2_tossOne 6 = .ok (.iload 5, 2) := by decide +kernel
theorem dX2_tossOne_8 : decode cX2_tossOne 8 = .ok (.aload_n 0, 1) := by decide +kernel
theorem dX2_tossOne_9 : decode cX2_tossOne 9 = .ok (.getfield 19, 3) := by decide +kernel
theorem dX2_tossOne_12 : decode cX2_tossOne 12 = .ok (.getfield 37, 3) := by decide +kernel
theorem dX2_tossOne_15 : decode cX2_tossOne 15 = .ok (.if_icmp .ge 32, 3) := by decide +kernel
theorem dX2_tossOne_18 : decode cX2_tossOne 18 = .ok (.iload 4, 2) := by decide +kernel
theorem dX2_tossOne_20 : decode cX2_tossOne 20 = .ok (.aload_n 0, 1) := by decide +kernel
theorem dX2_tossOne_21 : decode cX2_tossOne 21 = .ok (.getfield 19, 3) := by decide +kernel
theorem dX2_tossOne_24 : decode cX2_tossOne 24 = .ok (.iload_n 2, 1) := by decide +kernel
theorem dX2_tossOne_25 : decode cX2_tossOne 25 = .ok (.iload 5, 2) := by decide +kernel
theorem dX2_tossOne_27 : decode cX2_tossOne 27 = .ok (.invokevirtual 42, 3) := by decide +kernel
theorem dX2_tossOne_30 : decode cX2_tossOne 30 = .ok (.ifCond .eq 7, 3) := by decide +kernel
theorem dX2_tossOne_33 : decode cX2_tossOne 33 = .ok (.iconst 1, 1) := by decide +kernel
theorem dX2_tossOne_34 : decode cX2_tossOne 34 = .ok (.goto 4, 3) := by decide +kernel
theorem dX2_tossOne_37 : decode cX2_tossOne 37 = .ok (.iconst 0, 1) := by decide +kernel
theorem dX2_tossOne_38 : decode cX2_tossOne 38 = .ok (.iadd, 1) := by decide +kernel
theorem dX2_tossOne_39 : decode cX2_tossOne 39 = .ok (.istore 4, 2) := by decide +kernel
theorem dX2_tossOne_41 : decode cX2_tossOne 41 = .ok (.iinc 5 1, 3) := by decide +kernel
theorem dX2_tossOne_44 : decode cX2_tossOne 44 = .ok (.goto (-38), 3) := by decide +kernel
theorem dX2_tossOne_47 : decode cX2_tossOne 47 = .ok (.aload_n 0, 1) := by decide +kernel
theorem dX2_tossOne_48 : decode cX2_tossOne 48 = .ok (.dup, 1) := by decide +kernel
theorem dX2_tossOne_49 : decode cX2_tossOne 49 = .ok (.getfield 15, 3) := by decide +kernel
theorem dX2_tossOne_52 : decode cX2_tossOne 52 = .ok (.iload 4, 2) := by decide +kernel
theorem dX2_tossOne_54 : decode cX2_tossOne 54 = .ok (.iadd, 1) := by decide +kernel
theorem dX2_tossOne_55 : decode cX2_tossOne 55 = .ok (.putfield 15, 3) := by decide +kernel
theorem dX2_tossOne_58 : decode cX2_tossOne 58 = .ok (.aload_n 0, 1) := by decide +kernel
theorem dX2_tossOne_59 : decode cX2_tossOne 59 = .ok (.getfield 23, 3) := by decide +kernel
theorem dX2_tossOne_62 : decode cX2_tossOne 62 = .ok (.iconst 2, 1) := by decide +kernel
theorem dX2_tossOne_63 : decode cX2_tossOne 63 = .ok (.iload_n 2, 1) := by decide +kernel
theorem dX2_tossOne_64 : decode cX2_tossOne 64 = .ok (.invokevirtual 46, 3) := by decide +kernel
theorem dX2_tossOne_67 : decode cX2_tossOne 67 = .ok (.istore 5, 2) := by decide +kernel
theorem dX2_tossOne_69 : decode cX2_tossOne 69 = .ok (.iload_n 1, 1) := by decide +kernel
theorem dX2_tossOne_70 : decode cX2_tossOne 70 = .ok (.ifCond .ne 7, 3) := by decide +kernel
theorem dX2_tossOne_73 : decode cX2_tossOne 73 = .ok (.iconst 2, 1) := by decide +kernel
theorem dX2_tossOne_74 : decode cX2_tossOne 74 = .ok (.goto 4, 3) := by decide +kernel
theorem dX2_tossOne_77 : decode cX2_tossOne 77 = .ok (.iconst 1, 1) := by decide +kernel
theorem dX2_tossOne_78 : decode cX2_tossOne 78 = .ok (.istore 6, 2) := by decide +kernel
theorem dX2_tossOne_80 : decode cX2_tossOne 80 = .ok (.lconst 1, 1) := by decide +kernel
theorem dX2_tossOne_81 : decode cX2_tossOne 81 = .ok (.lstore 7, 2) := by decide +kernel
theorem dX2_tossOne_83 : decode cX2_tossOne 83 = .ok (.iconst 0, 1) := by decide +kernel
theorem dX2_tossOne_84 : decode cX2_tossOne 84 = .ok (.istore 9, 2) := by decide +kernel
theorem dX2_tossOne_86 : decode cX2_tossOne 86 = .ok (.iload 9, 2) := by decide +kernel
theorem dX2_tossOne_88 : decode cX2_tossOne 88 = .ok (.iload 4, 2) := by decide +kernel
theorem dX2_tossOne_90 : decode cX2_tossOne 90 = .ok (.if_icmp .gt 58, 3) := by decide +kernel
theorem dX2_tossOne_93 : decode cX2_tossOne 93 = .ok (.iload 5, 2) := by decide +kernel
theorem dX2_tossOne_95 : decode cX2_tossOne 95 = .ok (.iload 6, 2) := by decide +kernel
theorem dX2_tossOne_97 : decode cX2_tossOne 97 = .ok (.iconst 2, 1) := by decide +kernel
theorem dX2_tossOne_98 : decode cX2_tossOne 98 = .ok (.iload 9, 2) := by decide +kernel
theorem dX2_tossOne_100 : decode cX2_tossOne 100 = .ok (.imul, 1) := by decide +kernel
theorem dX2_tossOne_101 : decode cX2_tossOne 101 = .ok (.iload 4, 2) := by decide +kernel
theorem dX2_tossOne_103 : decode cX2_tossOne 103 = .ok (.isub, 1) := by decide +kernel
theorem dX2_tossOne_104 : decode cX2_tossOne 104 = .ok (.imul, 1) := by decide +kernel
theorem dX2_tossOne_105 : decode cX2_tossOne 105 = .ok (.iadd, 1) := by decide +kernel
theorem dX2_tossOne_106 : decode cX2_tossOne 106 = .ok (.istore 10, 2) := by decide +kernel
theorem dX2_tossOne_108 : decode cX2_tossOne 108 = .ok (.aload_n 0, 1) := by decide +kernel
theorem dX2_tossOne_109 : decode cX2_tossOne 109 = .ok (.getfield 9, 3) := by decide +kernel
theorem dX2_tossOne_112 : decode cX2_tossOne 112 = .ok (.iload_n 3, 1) := by decide +kernel
theorem dX2_tossOne_113 : decode cX2_tossOne 113 = .ok (.iload 10, 2) := by decide +kernel
theorem dX2_tossOne_115 : decode cX2_tossOne 115 = .ok (.invokestatic 52, 3) := by decide +kernel
theorem dX2_tossOne_118 : decode cX2_tossOne 118 = .ok (.iadd, 1) := by decide +kernel
theorem dX2_tossOne_119 : decode cX2_tossOne 119 = .ok (.dup2, 1) := by decide +kernel
theorem dX2_tossOne_120 : decode cX2_tossOne 120 = .ok (.laload, 1) := by decide +kernel
theorem dX2_tossOne_121 : decode cX2_tossOne 121 = .ok (.lload 7, 2) := by decide +kernel
theorem dX2_tossOne_123 : decode cX2_tossOne 123 = .ok (.ladd, 1) := by decide +kernel
theorem dX2_tossOne_124 : decode cX2_tossOne 124 = .ok (.lastore, 1) := by decide +kernel
theorem dX2_tossOne_125 : decode cX2_tossOne 125 = .ok (.lload 7, 2) := by decide +kernel
theorem dX2_tossOne_127 : decode cX2_tossOne 127 = .ok (.iload 4, 2) := by decide +kernel
theorem dX2_tossOne_129 : decode cX2_tossOne 129 = .ok (.iload 9, 2) := by decide +kernel
theorem dX2_tossOne_131 : decode cX2_tossOne 131 = .ok (.isub, 1) := by decide +kernel
theorem dX2_tossOne_132 : decode cX2_tossOne 132 = .ok (.i2l, 1) := by decide +kernel
theorem dX2_tossOne_133 : decode cX2_tossOne 133 = .ok (.lmul, 1) := by decide +kernel
theorem dX2_tossOne_134 : decode cX2_tossOne 134 = .ok (.iload 9, 2) := by decide +kernel
theorem dX2_tossOne_136 : decode cX2_tossOne 136 = .ok (.iconst 1, 1) := by decide +kernel
theorem dX2_tossOne_137 : decode cX2_tossOne 137 = .ok (.iadd, 1) := by decide +kernel
theorem dX2_tossOne_138 : decode cX2_tossOne 138 = .ok (.i2l, 1) := by decide +kernel
theorem dX2_tossOne_139 : decode cX2_tossOne 139 = .ok (.ldiv, 1) := by decide +kernel
theorem dX2_tossOne_140 : decode cX2_tossOne 140 = .ok (.lstore 7, 2) := by decide +kernel
theorem dX2_tossOne_142 : decode cX2_tossOne 142 = .ok (.iinc 9 1, 3) := by decide +kernel
theorem dX2_tossOne_145 : decode cX2_tossOne 145 = .ok (.goto (-59), 3) := by decide +kernel
theorem dX2_tossOne_148 : decode cX2_tossOne 148 = .ok (.return_, 1) := by decide +kernel
set_option maxRecDepth 20000 in
theorem ggX2_oddsOf_X2_waysToEnd : GoodIn wsX2_oddsOf wsX2_waysToEnd := goodIn_r _ [7, 8, 9, 10, 11, 12, 13, 14, 15, 16] (by decide +kernel) (by decide +kernel)
set_option maxRecDepth 20000 in
theorem gX2_oddsOf_X2_waysToEnd : GoodIn wsX2_oddsOf (wsV RX2 56 RX2 yX2_waysToEnd wsX2_waysToEnd) := goodIn_app (goodIn_of _ (by decide +kernel)) ggX2_oddsOf_X2_waysToEnd
theorem dX2_oddsOf_0 : decode cX2_oddsOf 0 = .ok (.aload_n 0, 1) := by decide +kernel
theorem dX2_oddsOf_1 : decode cX2_oddsOf 1 = .ok (.iload_n 1, 1) := by decide +kernel
theorem dX2_oddsOf_2 : decode cX2_oddsOf 2 = .ok (.invokevirtual 56, 3) := by decide +kernel
theorem dX2_oddsOf_5 : decode cX2_oddsOf 5 = .ok (.lstore_n 3, 1) := by decide +kernel
theorem dX2_oddsOf_6 : decode cX2_oddsOf 6 = .ok (.lconst 1, 1) := by decide +kernel
theorem dX2_oddsOf_7 : decode cX2_oddsOf 7 = .ok (.aload_n 0, 1) := by decide +kernel
theorem dX2_oddsOf_8 : decode cX2_oddsOf 8 = .ok (.getfield 15, 3) := by decide +kernel
theorem dX2_oddsOf_11 : decode cX2_oddsOf 11 = .ok (.lshl, 1) := by decide +kernel
theorem dX2_oddsOf_12 : decode cX2_oddsOf 12 = .ok (.lstore 5, 2) := by decide +kernel
theorem dX2_oddsOf_14 : decode cX2_oddsOf 14 = .ok (.iconst 0, 1) := by decide +kernel
theorem dX2_oddsOf_15 : decode cX2_oddsOf 15 = .ok (.istore 7, 2) := by decide +kernel
theorem dX2_oddsOf_17 : decode cX2_oddsOf 17 = .ok (.iload 7, 2) := by decide +kernel
theorem dX2_oddsOf_19 : decode cX2_oddsOf 19 = .ok (.aload_n 0, 1) := by decide +kernel
theorem dX2_oddsOf_20 : decode cX2_oddsOf 20 = .ok (.getfield 15, 3) := by decide +kernel
theorem dX2_oddsOf_23 : decode cX2_oddsOf 23 = .ok (.if_icmp .ge 33, 3) := by decide +kernel
theorem dX2_oddsOf_26 : decode cX2_oddsOf 26 = .ok (.lload_n 3, 1) := by decide +kernel
theorem dX2_oddsOf_27 : decode cX2_oddsOf 27 = .ok (.ldc2_w 60, 3) := by decide +kernel
theorem dX2_oddsOf_30 : decode cX2_oddsOf 30 = .ok (.lrem, 1) := by decide +kernel
theorem dX2_oddsOf_31 : decode cX2_oddsOf 31 = .ok (.lconst 0, 1) := by decide +kernel
theorem dX2_oddsOf_32 : decode cX2_oddsOf 32 = .ok (.lcmp, 1) := by decide +kernel
theorem dX2_oddsOf_33 : decode cX2_oddsOf 33 = .ok (.ifCond .ne 23, 3) := by decide +kernel
theorem dX2_oddsOf_36 : decode cX2_oddsOf 36 = .ok (.lload_n 3, 1) := by decide +kernel
theorem dX2_oddsOf_37 : decode cX2_oddsOf 37 = .ok (.ldc2_w 60, 3) := by decide +kernel
theorem dX2_oddsOf_40 : decode cX2_oddsOf 40 = .ok (.ldiv, 1) := by decide +kernel
theorem dX2_oddsOf_41 : decode cX2_oddsOf 41 = .ok (.lstore_n 3, 1) := by decide +kernel
theorem dX2_oddsOf_42 : decode cX2_oddsOf 42 = .ok (.lload 5, 2) := by decide +kernel
theorem dX2_oddsOf_44 : decode cX2_oddsOf 44 = .ok (.ldc2_w 60, 3) := by decide +kernel
theorem dX2_oddsOf_47 : decode cX2_oddsOf 47 = .ok (.ldiv, 1) := by decide +kernel
theorem dX2_oddsOf_48 : decode cX2_oddsOf 48 = .ok (.lstore 5, 2) := by decide +kernel
theorem dX2_oddsOf_50 : decode cX2_oddsOf 50 = .ok (.iinc 7 1, 3) := by decide +kernel
theorem dX2_oddsOf_53 : decode cX2_oddsOf 53 = .ok (.goto (-36), 3) := by decide +kernel
theorem dX2_oddsOf_56 : decode cX2_oddsOf 56 = .ok (.iload_n 2, 1) := by decide +kernel
theorem dX2_oddsOf_57 : decode cX2_oddsOf 57 = .ok (.ifCond .ne 7, 3) := by decide +kernel
theorem dX2_oddsOf_60 : decode cX2_oddsOf 60 = .ok (.lload_n 3, 1) := by decide +kernel
theorem dX2_oddsOf_61 : decode cX2_oddsOf 61 = .ok (.goto 5, 3) := by decide +kernel
theorem dX2_oddsOf_64 : decode cX2_oddsOf 64 = .ok (.lload 5, 2) := by decide +kernel
theorem dX2_oddsOf_66 : decode cX2_oddsOf 66 = .ok (.lreturn, 1) := by decide +kernel
set_option maxRecDepth 20000 in
theorem ggX2_waysToEnd_X1_endOf : GoodIn wsX2_waysToEnd wsX1_endOf := goodIn_r _ [5] (by decide +kernel) (by decide +kernel)
set_option maxRecDepth 20000 in
theorem gX2_waysToEnd_X1_endOf : GoodIn wsX2_waysToEnd (va_wsS RX2 62 yX1_endOf wsX1_endOf) := goodIn_app (goodIn_of _ (by decide +kernel)) ggX2_waysToEnd_X1_endOf
theorem dX2_waysToEnd_0 : decode cX2_waysToEnd 0 = .ok (.lconst 0, 1) := by decide +kernel
theorem dX2_waysToEnd_1 : decode cX2_waysToEnd 1 = .ok (.lstore_n 2, 1) := by decide +kernel
theorem dX2_waysToEnd_2 : decode cX2_waysToEnd 2 = .ok (.iconst 0, 1) := by decide +kernel
theorem dX2_waysToEnd_3 : decode cX2_waysToEnd 3 = .ok (.istore 4, 2) := by decide +kernel
theorem dX2_waysToEnd_5 : decode cX2_waysToEnd 5 = .ok (.iload 4, 2) := by decide +kernel
theorem dX2_waysToEnd_7 : decode cX2_waysToEnd 7 = .ok (.iconst 3, 1) := by decide +kernel
theorem dX2_waysToEnd_8 : decode cX2_waysToEnd 8 = .ok (.if_icmp .ge 83, 3) := by decide +kernel
theorem dX2_waysToEnd_11 : decode cX2_waysToEnd 11 = .ok (.iconst 0, 1) := by decide +kernel
theorem dX2_waysToEnd_12 : decode cX2_waysToEnd 12 = .ok (.istore 5, 2) := by decide +kernel
theorem dX2_waysToEnd_14 : decode cX2_waysToEnd 14 = .ok (.iload 5, 2) := by decide +kernel
theorem dX2_waysToEnd_16 : decode cX2_waysToEnd 16 = .ok (.iconst 3, 1) := by decide +kernel
theorem dX2_waysToEnd_17 : decode cX2_waysToEnd 17 = .ok (.if_icmp .ge 68, 3) := by decide +kernel
theorem dX2_waysToEnd_20 : decode cX2_waysToEnd 20 = .ok (.iconst 0, 1) := by decide +kernel
theorem dX2_waysToEnd_21 : decode cX2_waysToEnd 21 = .ok (.istore 6, 2) := by decide +kernel
theorem dX2_waysToEnd_23 : decode cX2_waysToEnd 23 = .ok (.iload 6, 2) := by decide +kernel
theorem dX2_waysToEnd_25 : decode cX2_waysToEnd 25 = .ok (.iconst 3, 1) := by decide +kernel
theorem dX2_waysToEnd_26 : decode cX2_waysToEnd 26 = .ok (.if_icmp .ge 53, 3) := by decide +kernel
theorem dX2_waysToEnd_29 : decode cX2_waysToEnd 29 = .ok (.iload 4, 2) := by decide +kernel
theorem dX2_waysToEnd_31 : decode cX2_waysToEnd 31 = .ok (.iload 5, 2) := by decide +kernel
theorem dX2_waysToEnd_33 : decode cX2_waysToEnd 33 = .ok (.iload 6, 2) := by decide +kernel
theorem dX2_waysToEnd_35 : decode cX2_waysToEnd 35 = .ok (.invokestatic 62, 3) := by decide +kernel
theorem dX2_waysToEnd_38 : decode cX2_waysToEnd 38 = .ok (.iload_n 1, 1) := by decide +kernel
theorem dX2_waysToEnd_39 : decode cX2_waysToEnd 39 = .ok (.if_icmp .ne 34, 3) := by decide +kernel
theorem dX2_waysToEnd_42 : decode cX2_waysToEnd 42 = .ok (.lload_n 2, 1) := by decide +kernel
theorem dX2_waysToEnd_43 : decode cX2_waysToEnd 43 = .ok (.aload_n 0, 1) := by decide +kernel
theorem dX2_waysToEnd_44 : decode cX2_waysToEnd 44 = .ok (.getfield 9, 3) := by decide +kernel
theorem dX2_waysToEnd_47 : decode cX2_waysToEnd 47 = .ok (.iload 4, 2) := by decide +kernel
theorem dX2_waysToEnd_49 : decode cX2_waysToEnd 49 = .ok (.laload, 1) := by decide +kernel
theorem dX2_waysToEnd_50 : decode cX2_waysToEnd 50 = .ok (.aload_n 0, 1) := by decide +kernel
theorem dX2_waysToEnd_51 : decode cX2_waysToEnd 51 = .ok (.getfield 9, 3) := by decide +kernel
theorem dX2_waysToEnd_54 : decode cX2_waysToEnd 54 = .ok (.iconst 3, 1) := by decide +kernel
theorem dX2_waysToEnd_55 : decode cX2_waysToEnd 55 = .ok (.iload 5, 2) := by decide +kernel
theorem dX2_waysToEnd_57 : decode cX2_waysToEnd 57 = .ok (.iadd, 1) := by decide +kernel
theorem dX2_waysToEnd_58 : decode cX2_waysToEnd 58 = .ok (.laload, 1) := by decide +kernel
theorem dX2_waysToEnd_59 : decode cX2_waysToEnd 59 = .ok (.lmul, 1) := by decide +kernel
theorem dX2_waysToEnd_60 : decode cX2_waysToEnd 60 = .ok (.aload_n 0, 1) := by decide +kernel
theorem dX2_waysToEnd_61 : decode cX2_waysToEnd 61 = .ok (.getfield 9, 3) := by decide +kernel
theorem dX2_waysToEnd_64 : decode cX2_waysToEnd 64 = .ok (.bipush 6, 2) := by decide +kernel
theorem dX2_waysToEnd_66 : decode cX2_waysToEnd 66 = .ok (.iload 6, 2) := by decide +kernel
theorem dX2_waysToEnd_68 : decode cX2_waysToEnd 68 = .ok (.iadd, 1) := by decide +kernel
theorem dX2_waysToEnd_69 : decode cX2_waysToEnd 69 = .ok (.laload, 1) := by decide +kernel
theorem dX2_waysToEnd_70 : decode cX2_waysToEnd 70 = .ok (.lmul, 1) := by decide +kernel
theorem dX2_waysToEnd_71 : decode cX2_waysToEnd 71 = .ok (.ladd, 1) := by decide +kernel
theorem dX2_waysToEnd_72 : decode cX2_waysToEnd 72 = .ok (.lstore_n 2, 1) := by decide +kernel
theorem dX2_waysToEnd_73 : decode cX2_waysToEnd 73 = .ok (.iinc 6 1, 3) := by decide +kernel
theorem dX2_waysToEnd_76 : decode cX2_waysToEnd 76 = .ok (.goto (-53), 3) := by decide +kernel
theorem dX2_waysToEnd_79 : decode cX2_waysToEnd 79 = .ok (.iinc 5 1, 3) := by decide +kernel
theorem dX2_waysToEnd_82 : decode cX2_waysToEnd 82 = .ok (.goto (-68), 3) := by decide +kernel
theorem dX2_waysToEnd_85 : decode cX2_waysToEnd 85 = .ok (.iinc 4 1, 3) := by decide +kernel
theorem dX2_waysToEnd_88 : decode cX2_waysToEnd 88 = .ok (.goto (-83), 3) := by decide +kernel
theorem dX2_waysToEnd_91 : decode cX2_waysToEnd 91 = .ok (.lload_n 2, 1) := by decide +kernel
theorem dX2_waysToEnd_92 : decode cX2_waysToEnd 92 = .ok (.lreturn, 1) := by decide +kernel
theorem dX3_init_0 : decode cX3_init 0 = .ok (.aload_n 0, 1) := by decide +kernel
theorem dX3_init_1 : decode cX3_init 1 = .ok (.invokespecial 1, 3) := by decide +kernel
theorem dX3_init_4 : decode cX3_init 4 = .ok (.aload_n 0, 1) := by decide +kernel
theorem dX3_init_5 : decode cX3_init 5 = .ok (.sipush 200, 3) := by decide +kernel
theorem dX3_init_8 : decode cX3_init 8 = .ok (.newarray .int, 2) := by decide +kernel
theorem dX3_init_10 : decode cX3_init 10 = .ok (.putfield 9, 3) := by decide +kernel
theorem dX3_init_13 : decode cX3_init 13 = .ok (.aload_n 0, 1) := by decide +kernel
theorem dX3_init_14 : decode cX3_init 14 = .ok (.bipush 56, 2) := by decide +kernel
theorem dX3_init_16 : decode cX3_init 16 = .ok (.newarray .int, 2) := by decide +kernel
theorem dX3_init_18 : decode cX3_init 18 = .ok (.putfield 13, 3) := by decide +kernel
theorem dX3_init_21 : decode cX3_init 21 = .ok (.aload_n 0, 1) := by decide +kernel
theorem dX3_init_22 : decode cX3_init 22 = .ok (.bipush 24, 2) := by decide +kernel
theorem dX3_init_24 : decode cX3_init 24 = .ok (.newarray .int, 2) := by decide +kernel
theorem dX3_init_26 : decode cX3_init 26 = .ok (.putfield 16, 3) := by decide +kernel
theorem dX3_init_29 : decode cX3_init 29 = .ok (.aload_n 0, 1) := by decide +kernel
theorem dX3_init_30 : decode cX3_init 30 = .ok (.bipush 24, 2) := by decide +kernel
theorem dX3_init_32 : decode cX3_init 32 = .ok (.newarray .int, 2) := by decide +kernel
theorem dX3_init_34 : decode cX3_init 34 = .ok (.putfield 19, 3) := by decide +kernel
theorem dX3_init_37 : decode cX3_init 37 = .ok (.aload_n 0, 1) := by decide +kernel
theorem dX3_init_38 : decode cX3_init 38 = .ok (.bipush 24, 2) := by decide +kernel
theorem dX3_init_40 : decode cX3_init 40 = .ok (.newarray .int, 2) := by decide +kernel
theorem dX3_init_42 : decode cX3_init 42 = .ok (.putfield 22, 3) := by decide +kernel
theorem dX3_init_45 : decode cX3_init 45 = .ok (.aload_n 0, 1) := by decide +kernel
theorem dX3_init_46 : decode cX3_init 46 = .ok (.bipush 40, 2) := by decide +kernel
theorem dX3_init_48 : decode cX3_init 48 = .ok (.newarray .int, 2) := by decide +kernel
theorem dX3_init_50 : decode cX3_init 50 = .ok (.putfield 25, 3) := by decide +kernel
theorem dX3_init_53 : decode cX3_init 53 = .ok (.aload_n 0, 1) := by decide +kernel
theorem dX3_init_54 : decode cX3_init 54 = .ok (.sipush 192, 3) := by decide +kernel
theorem dX3_init_57 : decode cX3_init 57 = .ok (.newarray .int, 2) := by decide +kernel
theorem dX3_init_59 : decode cX3_init 59 = .ok (.putfield 28, 3) := by decide +kernel
theorem dX3_init_62 : decode cX3_init 62 = .ok (.aload_n 0, 1) := by decide +kernel
theorem dX3_init_63 : decode cX3_init 63 = .ok (.bipush 96, 2) := by decide +kernel
theorem dX3_init_65 : decode cX3_init 65 = .ok (.newarray .int, 2) := by decide +kernel
theorem dX3_init_67 : decode cX3_init 67 = .ok (.putfield 31, 3) := by decide +kernel
theorem dX3_init_70 : decode cX3_init 70 = .ok (.return_, 1) := by decide +kernel
set_option maxRecDepth 20000 in
theorem ggX3_clear_J7_fill_53178 : GoodIn wsX3_clear wsJ7_fill_53178 := goodIn_r _ [12] (by decide +kernel) (by decide +kernel)
set_option maxRecDepth 20000 in
theorem gX3_clear_J7_fill_53178 : GoodIn wsX3_clear (va_wsS RX3 50 yJ7_fill_53178 wsJ7_fill_53178) := goodIn_app (goodIn_of _ (by decide +kernel)) ggX3_clear_J7_fill_53178
theorem dX3_clear_0 : decode cX3_clear 0 = .ok (.aload_n 0, 1) := by decide +kernel
theorem dX3_clear_1 : decode cX3_clear 1 = .ok (.bipush 12, 2) := by decide +kernel
theorem dX3_clear_3 : decode cX3_clear 3 = .ok (.putfield 34, 3) := by decide +kernel
theorem dX3_clear_6 : decode cX3_clear 6 = .ok (.aload_n 0, 1) := by decide +kernel
theorem dX3_clear_7 : decode cX3_clear 7 = .ok (.iconst 0, 1) := by decide +kernel
theorem dX3_clear_8 : decode cX3_clear 8 = .ok (.putfield 38, 3) := by decide +kernel
theorem dX3_clear_11 : decode cX3_clear 11 = .ok (.aload_n 0, 1) := by decide +kernel
theorem dX3_clear_12 : decode cX3_clear 12 = .ok (.iconst 0, 1) := by decide +kernel
theorem dX3_clear_13 : decode cX3_clear 13 = .ok (.putfield 41, 3) := by decide +kernel
theorem dX3_clear_16 : decode cX3_clear 16 = .ok (.aload_n 0, 1) := by decide +kernel
theorem dX3_clear_17 : decode cX3_clear 17 = .ok (.iconst 0, 1) := by decide +kernel
theorem dX3_clear_18 : decode cX3_clear 18 = .ok (.putfield 44, 3) := by decide +kernel
theorem dX3_clear_21 : decode cX3_clear 21 = .ok (.aload_n 0, 1) := by decide +kernel
theorem dX3_clear_22 : decode cX3_clear 22 = .ok (.iconst 0, 1) := by decide +kernel
theorem dX3_clear_23 : decode cX3_clear 23 = .ok (.putfield 47, 3) := by decide +kernel
theorem dX3_clear_26 : decode cX3_clear 26 = .ok (.aload_n 0, 1) := by decide +kernel
theorem dX3_clear_27 : decode cX3_clear 27 = .ok (.getfield 16, 3) := by decide +kernel
theorem dX3_clear_30 : decode cX3_clear 30 = .ok (.iconst 0, 1) := by decide +kernel
theorem dX3_clear_31 : decode cX3_clear 31 = .ok (.invokestatic 50, 3) := by decide +kernel
theorem dX3_clear_34 : decode cX3_clear 34 = .ok (.aload_n 0, 1) := by decide +kernel
theorem dX3_clear_35 : decode cX3_clear 35 = .ok (.getfield 19, 3) := by decide +kernel
theorem dX3_clear_38 : decode cX3_clear 38 = .ok (.iconst 0, 1) := by decide +kernel
theorem dX3_clear_39 : decode cX3_clear 39 = .ok (.invokestatic 50, 3) := by decide +kernel
theorem dX3_clear_42 : decode cX3_clear 42 = .ok (.aload_n 0, 1) := by decide +kernel
theorem dX3_clear_43 : decode cX3_clear 43 = .ok (.getfield 22, 3) := by decide +kernel
theorem dX3_clear_46 : decode cX3_clear 46 = .ok (.iconst 0, 1) := by decide +kernel
theorem dX3_clear_47 : decode cX3_clear 47 = .ok (.invokestatic 50, 3) := by decide +kernel
theorem dX3_clear_50 : decode cX3_clear 50 = .ok (.return_, 1) := by decide +kernel
set_option maxRecDepth 20000 in
theorem ggX3_startPlain_X3_clear : GoodIn wsX3_startPlain wsX3_clear := goodIn_r _ [6, 7, 8, 9, 10, 11, 12, 13, 14, 15, 16, 17, 18, 65, 66, 67, 68, 69, 70, 71, 72, 73, 74, 75, 76, 77] (by decide +kernel) (by decide +kernel)
set_option maxRecDepth 20000 in
theorem gX3_startPlain_X3_clear : GoodIn wsX3_startPlain (wsV RX3 56 RX3 yX3_clear wsX3_clear) := goodIn_app (goodIn_of _ (by decide +kernel)) ggX3_startPlain_X3_clear
set_option maxRecDepth 20000 in
theorem ggX3_startPlain_X3_addJudge : GoodIn wsX3_startPlain wsX3_addJudge := goodIn_r _ [22, 11, 23, 24, 25, 26, 27, 65, 66, 67, 68, 69, 70, 71, 72, 73, 74, 75, 76, 77] (by decide +kernel) (by decide +kernel)
set_option maxRecDepth 20000 in
theorem gX3_startPlain_X3_addJudge : GoodIn wsX3_startPlain (wsV RX3 62 RX3 yX3_addJudge wsX3_addJudge) := goodIn_app (goodIn_of _ (by decide +kernel)) ggX3_startPlain_X3_addJudge
set_option maxRecDepth 20000 in
theorem ggX3_startPlain_X3_addUp : GoodIn wsX3_startPlain wsX3_addUp := goodIn_r _ [31, 32, 11, 33, 12, 10, 34, 15, 16, 17, 18, 35, 36, 37, 5, 38, 23, 39, 40, 41, 42, 8, 9, 43, 44, 45, 46, 47, 48, 49, 50, 51, 52, 53, 54, 55, 56, 57, 58, 59, 60, 61, 62, 63, 64, 65, 66, 67, 68, 69, 70, 71, 72, 73, 74, 75, 76, 77] (by decide +kernel) (by decide +kernel)
set_option maxRecDepth 20000 in
theorem gX3_startPlain_X3_addUp : GoodIn wsX3_startPlain (wsV RX3 66 RX3 yX3_addUp wsX3_addUp) := goodIn_app (goodIn_of _ (by decide +kernel)) ggX3_startPlain_X3_addUp
theorem dX3_startPlain_0 : decode cX3_startPlain 0 = .ok (.aload_n 0, 1) := by decide +kernel
theorem dX3_startPlain_1 : decode cX3_startPlain 1 = .ok (.invokevirtual 56, 3) := by decide +kernel
theorem dX3_startPlain_4 : decode cX3_startPlain 4 = .ok (.iconst 0, 1) := by decide +kernel
theorem dX3_startPlain_5 : decode cX3_startPlain 5 = .ok (.istore_n 1, 1) := by decide +kernel
theorem dX3_startPlain_6 : decode cX3_startPlain 6 = .ok (.iload_n 1, 1) := by decide +kernel
theorem dX3_startPlain_7 : decode cX3_startPlain 7 = .ok (.iconst 3, 1) := by decide +kernel
theorem dX3_startPlain_8 : decode cX3_startPlain 8 = .ok (.if_icmp .ge 17, 3) := by decide +kernel
theorem dX3_startPlain_11 : decode cX3_startPlain 11 = .ok (.aload_n 0, 1) := by decide +kernel
theorem dX3_startPlain_12 : decode cX3_startPlain 12 = .ok (.getstatic 59, 3) := by decide +kernel
theorem dX3_startPlain_15 : decode cX3_startPlain 15 = .ok (.invokevirtual 62, 3) := by decide +kernel
theorem dX3_startPlain_18 : decode cX3_startPlain 18 = .ok (.pop, 1) := by decide +kernel
theorem dX3_startPlain_19 : decode cX3_startPlain 19 = .ok (.iinc 1 1, 3) := by decide +kernel
theorem dX3_startPlain_22 : decode cX3_startPlain 22 = .ok (.goto (-16), 3) := by decide +kernel
theorem dX3_startPlain_25 : decode cX3_startPlain 25 = .ok (.aload_n 0, 1) := by decide +kernel
theorem dX3_startPlain_26 : decode cX3_startPlain 26 = .ok (.invokevirtual 66, 3) := by decide +kernel
theorem dX3_startPlain_29 : decode cX3_startPlain 29 = .ok (.return_, 1) := by decide +kernel
set_option maxRecDepth 20000 in
theorem ggX3_take_X3_addBlow : GoodIn wsX3_take wsX3_addBlow := goodIn_r _ [11, 12, 13, 14, 15, 16, 17, 28, 29, 30, 31, 32, 33, 34, 35, 36, 37, 38, 39, 40] (by decide +kernel) (by decide +kernel)
set_option maxRecDepth 20000 in
theorem gX3_take_X3_addBlow : GoodIn wsX3_take (wsV RX3 69 RX3 yX3_addBlow wsX3_addBlow) := goodIn_app (goodIn_of _ (by decide +kernel)) ggX3_take_X3_addBlow
set_option maxRecDepth 20000 in
theorem ggX3_take_X3_addOne : GoodIn wsX3_take wsX3_addOne := goodIn_r _ [21] (by decide +kernel) (by decide +kernel)
set_option maxRecDepth 20000 in
theorem gX3_take_X3_addOne : GoodIn wsX3_take (wsV RX3 72 RX3 yX3_addOne wsX3_addOne) := goodIn_app (goodIn_of _ (by decide +kernel)) ggX3_take_X3_addOne
set_option maxRecDepth 20000 in
theorem ggX3_take_X3_addJudge : GoodIn wsX3_take wsX3_addJudge := goodIn_r _ [25, 26, 27, 14, 15, 16, 17, 28, 29, 30, 31, 32, 33, 34, 35, 36, 37, 38, 39, 40] (by decide +kernel) (by decide +kernel)
set_option maxRecDepth 20000 in
theorem gX3_take_X3_addJudge : GoodIn wsX3_take (wsV RX3 62 RX3 yX3_addJudge wsX3_addJudge) := goodIn_app (goodIn_of _ (by decide +kernel)) ggX3_take_X3_addJudge
theorem dX3_take_0 : decode cX3_take 0 = .ok (.iload_n 1, 1) := by decide +kernel
theorem dX3_take_1 : decode cX3_take 1 = .ok (.tableswitch 163 98 114 #[92, 163, 132, 163, 98, 163, 147, 163, 163, 117, 163, 163, 163, 163, 163, 163, 83], 83) := by decide +kernel
theorem dX3_take_84 : decode cX3_take 84 = .ok (.aload_n 0, 1) := by decide +kernel
theorem dX3_take_85 : decode cX3_take 85 = .ok (.aload_n 2, 1) := by decide +kernel
theorem dX3_take_86 : decode cX3_take 86 = .ok (.iconst 0, 1) := by decide +kernel
theorem dX3_take_87 : decode cX3_take 87 = .ok (.iaload, 1) := by decide +kernel
theorem dX3_take_88 : decode cX3_take 88 = .ok (.putfield 34, 3) := by decide +kernel
theorem dX3_take_91 : decode cX3_take 91 = .ok (.iconst 1, 1) := by decide +kernel
theorem dX3_take_92 : decode cX3_take 92 = .ok (.ireturn, 1) := by decide +kernel
theorem dX3_take_93 : decode cX3_take 93 = .ok (.aload_n 0, 1) := by decide +kernel
theorem dX3_take_94 : decode cX3_take 94 = .ok (.aload_n 2, 1) := by decide +kernel
theorem dX3_take_95 : decode cX3_take 95 = .ok (.invokevirtual 69, 3) := by decide +kernel
theorem dX3_take_98 : decode cX3_take 98 = .ok (.ireturn, 1) := by decide +kernel
theorem dX3_take_99 : decode cX3_take 99 = .ok (.aload_n 0, 1) := by decide +kernel
theorem dX3_take_100 : decode cX3_take 100 = .ok (.getfield 16, 3) := by decide +kernel
theorem dX3_take_103 : decode cX3_take 103 = .ok (.aload_n 2, 1) := by decide +kernel
theorem dX3_take_104 : decode cX3_take 104 = .ok (.iconst 0, 1) := by decide +kernel
theorem dX3_take_105 : decode cX3_take 105 = .ok (.iaload, 1) := by decide +kernel
theorem dX3_take_106 : decode cX3_take 106 = .ok (.iconst 2, 1) := by decide +kernel
theorem dX3_take_107 : decode cX3_take 107 = .ok (.imul, 1) := by decide +kernel
theorem dX3_take_108 : decode cX3_take 108 = .ok (.aload_n 2, 1) := by decide +kernel
theorem dX3_take_109 : decode cX3_take 109 = .ok (.iconst 1, 1) := by decide +kernel
theorem dX3_take_110 : decode cX3_take 110 = .ok (.iaload, 1) := by decide +kernel
theorem dX3_take_111 : decode cX3_take 111 = .ok (.iadd, 1) := by decide +kernel
theorem dX3_take_112 : decode cX3_take 112 = .ok (.aload_n 2, 1) := by decide +kernel
theorem dX3_take_113 : decode cX3_take 113 = .ok (.iconst 2, 1) := by decide +kernel
theorem dX3_take_114 : decode cX3_take 114 = .ok (.iaload, 1) := by decide +kernel
theorem dX3_take_115 : decode cX3_take 115 = .ok (.iastore, 1) := by decide +kernel
theorem dX3_take_116 : decode cX3_take 116 = .ok (.iconst 1, 1) := by decide +kernel
theorem dX3_take_117 : decode cX3_take 117 = .ok (.ireturn, 1) := by decide +kernel
theorem dX3_take_118 : decode cX3_take 118 = .ok (.aload_n 0, 1) := by decide +kernel
theorem dX3_take_119 : decode cX3_take 119 = .ok (.aload_n 0, 1) := by decide +kernel
theorem dX3_take_120 : decode cX3_take 120 = .ok (.getfield 19, 3) := by decide +kernel
theorem dX3_take_123 : decode cX3_take 123 = .ok (.aload_n 2, 1) := by decide +kernel
theorem dX3_take_124 : decode cX3_take 124 = .ok (.iconst 0, 1) := by decide +kernel
theorem dX3_take_125 : decode cX3_take 125 = .ok (.iaload, 1) := by decide +kernel
theorem dX3_take_126 : decode cX3_take 126 = .ok (.aload_n 2, 1) := by decide +kernel
theorem dX3_take_127 : decode cX3_take 127 = .ok (.iconst 1, 1) := by decide +kernel
theorem dX3_take_128 : decode cX3_take 128 = .ok (.iaload, 1) := by decide +kernel
theorem dX3_take_129 : decode cX3_take 129 = .ok (.invokevirtual 72, 3) := by decide +kernel
theorem dX3_take_132 : decode cX3_take 132 = .ok (.ireturn, 1) := by decide +kernel
theorem dX3_take_133 : decode cX3_take 133 = .ok (.aload_n 0, 1) := by decide +kernel
theorem dX3_take_134 : decode cX3_take 134 = .ok (.aload_n 0, 1) := by decide +kernel
theorem dX3_take_135 : decode cX3_take 135 = .ok (.getfield 22, 3) := by decide +kernel
theorem dX3_take_138 : decode cX3_take 138 = .ok (.aload_n 2, 1) := by decide +kernel
theorem dX3_take_139 : decode cX3_take 139 = .ok (.iconst 0, 1) := by decide +kernel
theorem dX3_take_140 : decode cX3_take 140 = .ok (.iaload, 1) := by decide +kernel
theorem dX3_take_141 : decode cX3_take 141 = .ok (.aload_n 2, 1) := by decide +kernel
theorem dX3_take_142 : decode cX3_take 142 = .ok (.iconst 1, 1) := by decide +kernel
theorem dX3_take_143 : decode cX3_take 143 = .ok (.iaload, 1) := by decide +kernel
theorem dX3_take_144 : decode cX3_take 144 = .ok (.invokevirtual 72, 3) := by decide +kernel
theorem dX3_take_147 : decode cX3_take 147 = .ok (.ireturn, 1) := by decide +kernel
theorem dX3_take_148 : decode cX3_take 148 = .ok (.aload_n 0, 1) := by decide +kernel
theorem dX3_take_149 : decode cX3_take 149 = .ok (.aload_n 2, 1) := by decide +kernel
theorem dX3_take_150 : decode cX3_take 150 = .ok (.iconst 0, 1) := by decide +kernel
theorem dX3_take_151 : decode cX3_take 151 = .ok (.iaload, 1) := by decide +kernel
theorem dX3_take_152 : decode cX3_take 152 = .ok (.putfield 38, 3) := by decide +kernel
theorem dX3_take_155 : decode cX3_take 155 = .ok (.aload_n 0, 1) := by decide +kernel
theorem dX3_take_156 : decode cX3_take 156 = .ok (.aload_n 2, 1) := by decide +kernel
theorem dX3_take_157 : decode cX3_take 157 = .ok (.iconst 1, 1) := by decide +kernel
theorem dX3_take_158 : decode cX3_take 158 = .ok (.iaload, 1) := by decide +kernel
theorem dX3_take_159 : decode cX3_take 159 = .ok (.putfield 41, 3) := by decide +kernel
theorem dX3_take_162 : decode cX3_take 162 = .ok (.iconst 1, 1) := by decide +kernel
theorem dX3_take_163 : decode cX3_take 163 = .ok (.ireturn, 1) := by decide +kernel
theorem dX3_take_164 : decode cX3_take 164 = .ok (.aload_n 0, 1) := by decide +kernel
theorem dX3_take_165 : decode cX3_take 165 = .ok (.aload_n 2, 1) := by decide +kernel
theorem dX3_take_166 : decode cX3_take 166 = .ok (.invokevirtual 62, 3) := by decide +kernel
theorem dX3_take_169 : decode cX3_take 169 = .ok (.ireturn, 1) := by decide +kernel
theorem dX3_addBlow_0 : decode cX3_addBlow 0 = .ok (.aload_n 0, 1) := by decide +kernel
theorem dX3_addBlow_1 : decode cX3_addBlow 1 = .ok (.getfield 44, 3) := by decide +kernel
theorem dX3_addBlow_4 : decode cX3_addBlow 4 = .ok (.bipush 40, 2) := by decide +kernel
theorem dX3_addBlow_6 : decode cX3_addBlow 6 = .ok (.if_icmp .lt 5, 3) := by decide +kernel
theorem dX3_addBlow_9 : decode cX3_addBlow 9 = .ok (.iconst 0, 1) := by decide +kernel
theorem dX3_addBlow_10 : decode cX3_addBlow 10 = .ok (.ireturn, 1) := by decide +kernel
theorem dX3_addBlow_11 : decode cX3_addBlow 11 = .ok (.aload_n 1, 1) := by decide +kernel
theorem dX3_addBlow_12 : decode cX3_addBlow 12 = .ok (.iconst 0, 1) := by decide +kernel
theorem dX3_addBlow_13 : decode cX3_addBlow 13 = .ok (.aload_n 0, 1) := by decide +kernel
theorem dX3_addBlow_14 : decode cX3_addBlow 14 = .ok (.getfield 9, 3) := by decide +kernel
theorem dX3_addBlow_17 : decode cX3_addBlow 17 = .ok (.aload_n 0, 1) := by decide +kernel
theorem dX3_addBlow_18 : decode cX3_addBlow 18 = .ok (.getfield 44, 3) := by decide +kernel
theorem dX3_addBlow_21 : decode cX3_addBlow 21 = .ok (.iconst 5, 1) := by decide +kernel
theorem dX3_addBlow_22 : decode cX3_addBlow 22 = .ok (.imul, 1) := by decide +kernel
theorem dX3_addBlow_23 : decode cX3_addBlow 23 = .ok (.iconst 5, 1) := by decide +kernel
theorem dX3_addBlow_24 : decode cX3_addBlow 24 = .ok (.invokestatic 76, 3) := by decide +kernel
theorem dX3_addBlow_27 : decode cX3_addBlow 27 = .ok (.aload_n 0, 1) := by decide +kernel
theorem dX3_addBlow_28 : decode cX3_addBlow 28 = .ok (.dup, 1) := by decide +kernel
theorem dX3_addBlow_29 : decode cX3_addBlow 29 = .ok (.getfield 44, 3) := by decide +kernel
theorem dX3_addBlow_32 : decode cX3_addBlow 32 = .ok (.iconst 1, 1) := by decide +kernel
theorem dX3_addBlow_33 : decode cX3_addBlow 33 = .ok (.iadd, 1) := by decide +kernel
theorem dX3_addBlow_34 : decode cX3_addBlow 34 = .ok (.putfield 44, 3) := by decide +kernel
theorem dX3_addBlow_37 : decode cX3_addBlow 37 = .ok (.iconst 1, 1) := by decide +kernel
theorem dX3_addBlow_38 : decode cX3_addBlow 38 = .ok (.ireturn, 1) := by decide +kernel
theorem dX3_addJudge_0 : decode cX3_addJudge 0 = .ok (.aload_n 0, 1) := by decide +kernel
theorem dX3_addJudge_1 : decode cX3_addJudge 1 = .ok (.getfield 47, 3) := by decide +kernel
theorem dX3_addJudge_4 : decode cX3_addJudge 4 = .ok (.bipush 8, 2) := by decide +kernel
theorem dX3_addJudge_6 : decode cX3_addJudge 6 = .ok (.if_icmp .lt 5, 3) := by decide +kernel
theorem dX3_addJudge_9 : decode cX3_addJudge 9 = .ok (.iconst 0, 1) := by decide +kernel
theorem dX3_addJudge_10 : decode cX3_addJudge 10 = .ok (.ireturn, 1) := by decide +kernel
theorem dX3_addJudge_11 : decode cX3_addJudge 11 = .ok (.aload_n 1, 1) := by decide +kernel
theorem dX3_addJudge_12 : decode cX3_addJudge 12 = .ok (.iconst 0, 1) := by decide +kernel
theorem dX3_addJudge_13 : decode cX3_addJudge 13 = .ok (.aload_n 0, 1) := by decide +kernel
theorem dX3_addJudge_14 : decode cX3_addJudge 14 = .ok (.getfield 13, 3) := by decide +kernel
theorem dX3_addJudge_17 : decode cX3_addJudge 17 = .ok (.aload_n 0, 1) := by decide +kernel
theorem dX3_addJudge_18 : decode cX3_addJudge 18 = .ok (.getfield 47, 3) := by decide +kernel
theorem dX3_addJudge_21 : decode cX3_addJudge 21 = .ok (.bipush 7, 2) := by decide +kernel
theorem dX3_addJudge_23 : decode cX3_addJudge 23 = .ok (.imul, 1) := by decide +kernel
theorem dX3_addJudge_24 : decode cX3_addJudge 24 = .ok (.bipush 7, 2) := by decide +kernel
theorem dX3_addJudge_26 : decode cX3_addJudge 26 = .ok (.invokestatic 76, 3) := by decide +kernel
theorem dX3_addJudge_29 : decode cX3_addJudge 29 = .ok (.aload_n 0, 1) := by decide +kernel
theorem dX3_addJudge_30 : decode cX3_addJudge 30 = .ok (.dup, 1) := by decide +kernel
theorem dX3_addJudge_31 : decode cX3_addJudge 31 = .ok (.getfield 47, 3) := by decide +kernel
theorem dX3_addJudge_34 : decode cX3_addJudge 34 = .ok (.iconst 1, 1) := by decide +kernel
theorem dX3_addJudge_35 : decode cX3_addJudge 35 = .ok (.iadd, 1) := by decide +kernel
theorem dX3_addJudge_36 : decode cX3_addJudge 36 = .ok (.putfield 47, 3) := by decide +kernel
theorem dX3_addJudge_39 : decode cX3_addJudge 39 = .ok (.iconst 1, 1) := by decide +kernel
theorem dX3_addJudge_40 : decode cX3_addJudge 40 = .ok (.ireturn, 1) := by decide +kernel
theorem dX3_addOne_0 : decode cX3_addOne 0 = .ok (.aload_n 1, 1) := by decide +kernel
theorem dX3_addOne_1 : decode cX3_addOne 1 = .ok (.iload_n 2, 1) := by decide +kernel
theorem dX3_addOne_2 : decode cX3_addOne 2 = .ok (.iconst 2, 1) := by decide +kernel
theorem dX3_addOne_3 : decode cX3_addOne 3 = .ok (.imul, 1) := by decide +kernel
theorem dX3_addOne_4 : decode cX3_addOne 4 = .ok (.iaload, 1) := by decide +kernel
theorem dX3_addOne_5 : decode cX3_addOne 5 = .ok (.aload_n 1, 1) := by decide +kernel
theorem dX3_addOne_6 : decode cX3_addOne 6 = .ok (.iload_n 2, 1) := by decide +kernel
theorem dX3_addOne_7 : decode cX3_addOne 7 = .ok (.iconst 2, 1) := by decide +kernel
theorem dX3_addOne_8 : decode cX3_addOne 8 = .ok (.imul, 1) := by decide +kernel
theorem dX3_addOne_9 : decode cX3_addOne 9 = .ok (.iconst 1, 1) := by decide +kernel
theorem dX3_addOne_10 : decode cX3_addOne 10 = .ok (.iadd, 1) := by decide +kernel
theorem dX3_addOne_11 : decode cX3_addOne 11 = .ok (.iaload, 1) := by decide +kernel
theorem dX3_addOne_12 : decode cX3_addOne 12 = .ok (.iadd, 1) := by decide +kernel
theorem dX3_addOne_13 : decode cX3_addOne 13 = .ok (.iconst 3, 1) := by decide +kernel
theorem dX3_addOne_14 : decode cX3_addOne 14 = .ok (.if_icmp .lt 5, 3) := by decide +kernel
theorem dX3_addOne_17 : decode cX3_addOne 17 = .ok (.iconst 0, 1) := by decide +kernel
theorem dX3_addOne_18 : decode cX3_addOne 18 = .ok (.ireturn, 1) := by decide +kernel
theorem dX3_addOne_19 : decode cX3_addOne 19 = .ok (.aload_n 1, 1) := by decide +kernel
theorem dX3_addOne_20 : decode cX3_addOne 20 = .ok (.iload_n 2, 1) := by decide +kernel
theorem dX3_addOne_21 : decode cX3_addOne 21 = .ok (.iconst 2, 1) := by decide +kernel
theorem dX3_addOne_22 : decode cX3_addOne 22 = .ok (.imul, 1) := by decide +kernel
theorem dX3_addOne_23 : decode cX3_addOne 23 = .ok (.iload_n 3, 1) := by decide +kernel
theorem dX3_addOne_24 : decode cX3_addOne 24 = .ok (.iadd, 1) := by decide +kernel
theorem dX3_addOne_25 : decode cX3_addOne 25 = .ok (.dup2, 1) := by decide +kernel
theorem dX3_addOne_26 : decode cX3_addOne 26 = .ok (.iaload, 1) := by decide +kernel
theorem dX3_addOne_27 : decode cX3_addOne 27 = .ok (.iconst 1, 1) := by decide +kernel
theorem dX3_addOne_28 : decode cX3_addOne 28 = .ok (.iadd, 1) := by decide +kernel
theorem dX3_addOne_29 : decode cX3_addOne 29 = .ok (.iastore, 1) := by decide +kernel
theorem dX3_addOne_30 : decode cX3_addOne 30 = .ok (.iconst 1, 1) := by decide +kernel
theorem dX3_addOne_31 : decode cX3_addOne 31 = .ok (.ireturn, 1) := by decide +kernel
set_option maxRecDepth 20000 in
theorem ggX3_addUp_J7_fill_53178 : GoodIn wsX3_addUp wsJ7_fill_53178 := goodIn_r _ [10] (by decide +kernel) (by decide +kernel)
set_option maxRecDepth 20000 in
theorem gX3_addUp_J7_fill_53178 : GoodIn wsX3_addUp (va_wsS RX3 50 yJ7_fill_53178 wsJ7_fill_53178) := goodIn_app (goodIn_of _ (by decide +kernel)) ggX3_addUp_J7_fill_53178
set_option maxRecDepth 20000 in
theorem ggX3_addUp_X3_judgePart : GoodIn wsX3_addUp wsX3_judgePart := goodIn_r _ [15, 16, 45, 46, 47, 48, 49, 50, 51, 52, 53, 54, 55, 56, 57] (by decide +kernel) (by decide +kernel)
set_option maxRecDepth 20000 in
theorem gX3_addUp_X3_judgePart : GoodIn wsX3_addUp (wsV RX3 82 RX3 yX3_judgePart wsX3_judgePart) := goodIn_app (goodIn_of _ (by decide +kernel)) ggX3_addUp_X3_judgePart
set_option maxRecDepth 20000 in
theorem ggX3_addUp_X3_addUpBlow : GoodIn wsX3_addUp wsX3_addUpBlow := goodIn_r _ [20, 1, 21, 22, 3, 11, 12, 13, 14, 15, 16, 23, 24, 25, 26, 27, 28, 29, 30, 31, 32, 33, 34, 35, 36, 37, 38, 39, 40, 45, 46, 47, 48, 49, 50, 51, 52, 53, 54, 55, 56, 57] (by decide +kernel) (by decide +kernel)
set_option maxRecDepth 20000 in
theorem gX3_addUp_X3_addUpBlow : GoodIn wsX3_addUp (wsV RX3 86 RX3 yX3_addUpBlow wsX3_addUpBlow) := goodIn_app (goodIn_of _ (by decide +kernel)) ggX3_addUp_X3_addUpBlow
set_option maxRecDepth 20000 in
theorem ggX3_addUp_X3_sumOf : GoodIn wsX3_addUp wsX3_sumOf := goodIn_r _ [44, 3, 38, 39, 14, 40, 45, 46, 47, 48, 49, 50, 51, 52, 53, 54, 55, 56, 57] (by decide +kernel) (by decide +kernel)
set_option maxRecDepth 20000 in
theorem gX3_addUp_X3_sumOf : GoodIn wsX3_addUp (wsV RX3 90 RX3 yX3_sumOf wsX3_sumOf) := goodIn_app (goodIn_of _ (by decide +kernel)) ggX3_addUp_X3_sumOf
theorem dX3_addUp_0 : decode cX3_addUp 0 = .ok (.aload_n 0, 1) := by decide +kernel
theorem dX3_addUp_1 : decode cX3_addUp 1 = .ok (.getfield 25, 3) := by decide +kernel
theorem dX3_addUp_4 : decode cX3_addUp 4 = .ok (.iconst 0, 1) := by decide +kernel
theorem dX3_addUp_5 : decode cX3_addUp 5 = .ok (.invokestatic 50, 3) := by decide +kernel
theorem dX3_addUp_8 : decode cX3_addUp 8 = .ok (.iconst 0, 1) := by decide +kernel
theorem dX3_addUp_9 : decode cX3_addUp 9 = .ok (.istore_n 1, 1) := by decide +kernel
theorem dX3_addUp_10 : decode cX3_addUp 10 = .ok (.iload_n 1, 1) := by decide +kernel
theorem dX3_addUp_11 : decode cX3_addUp 11 = .ok (.aload_n 0, 1) := by decide +kernel
theorem dX3_addUp_12 : decode cX3_addUp 12 = .ok (.getfield 47, 3) := by decide +kernel
theorem dX3_addUp_15 : decode cX3_addUp 15 = .ok (.if_icmp .ge 123, 3) := by decide +kernel
theorem dX3_addUp_18 : decode cX3_addUp 18 = .ok (.iconst 0, 1) := by decide +kernel
theorem dX3_addUp_19 : decode cX3_addUp 19 = .ok (.istore_n 2, 1) := by decide +kernel
theorem dX3_addUp_20 : decode cX3_addUp 20 = .ok (.iload_n 2, 1) := by decide +kernel
theorem dX3_addUp_21 : decode cX3_addUp 21 = .ok (.bipush 24, 2) := by decide +kernel
theorem dX3_addUp_23 : decode cX3_addUp 23 = .ok (.if_icmp .ge 35, 3) := by decide +kernel
theorem dX3_addUp_26 : decode cX3_addUp 26 = .ok (.aload_n 0, 1) := by decide +kernel
theorem dX3_addUp_27 : decode cX3_addUp 27 = .ok (.getfield 28, 3) := by decide +kernel
theorem dX3_addUp_30 : decode cX3_addUp 30 = .ok (.iload_n 1, 1) := by decide +kernel
theorem dX3_addUp_31 : decode cX3_addUp 31 = .ok (.bipush 12, 2) := by decide +kernel
theorem dX3_addUp_33 : decode cX3_addUp 33 = .ok (.imul, 1) := by decide +kernel
theorem dX3_addUp_34 : decode cX3_addUp 34 = .ok (.iconst 2, 1) := by decide +kernel
theorem dX3_addUp_35 : decode cX3_addUp 35 = .ok (.imul, 1) := by decide +kernel
theorem dX3_addUp_36 : decode cX3_addUp 36 = .ok (.iload_n 2, 1) := by decide +kernel
theorem dX3_addUp_37 : decode cX3_addUp 37 = .ok (.iadd, 1) := by decide +kernel
theorem dX3_addUp_38 : decode cX3_addUp 38 = .ok (.aload_n 0, 1) := by decide +kernel
theorem dX3_addUp_39 : decode cX3_addUp 39 = .ok (.iload_n 1, 1) := by decide +kernel
theorem dX3_addUp_40 : decode cX3_addUp 40 = .ok (.iconst 2, 1) := by decide +kernel
theorem dX3_addUp_41 : decode cX3_addUp 41 = .ok (.invokevirtual 82, 3) := by decide +kernel
theorem dX3_addUp_44 : decode cX3_addUp 44 = .ok (.aload_n 0, 1) := by decide +kernel
theorem dX3_addUp_45 : decode cX3_addUp 45 = .ok (.getfield 16, 3) := by decide +kernel
theorem dX3_addUp_48 : decode cX3_addUp 48 = .ok (.iload_n 2, 1) := by decide +kernel
theorem dX3_addUp_49 : decode cX3_addUp 49 = .ok (.iaload, 1) := by decide +kernel
theorem dX3_addUp_50 : decode cX3_addUp 50 = .ok (.imul, 1) := by decide +kernel
theorem dX3_addUp_51 : decode cX3_addUp 51 = .ok (.iastore, 1) := by decide +kernel
theorem dX3_addUp_52 : decode cX3_addUp 52 = .ok (.iinc 2 1, 3) := by decide +kernel
theorem dX3_addUp_55 : decode cX3_addUp 55 = .ok (.goto (-35), 3) := by decide +kernel
theorem dX3_addUp_58 : decode cX3_addUp 58 = .ok (.iconst 0, 1) := by decide +kernel
theorem dX3_addUp_59 : decode cX3_addUp 59 = .ok (.istore_n 2, 1) := by decide +kernel
theorem dX3_addUp_60 : decode cX3_addUp 60 = .ok (.iload_n 2, 1) := by decide +kernel
theorem dX3_addUp_61 : decode cX3_addUp 61 = .ok (.aload_n 0, 1) := by decide +kernel
theorem dX3_addUp_62 : decode cX3_addUp 62 = .ok (.getfield 44, 3) := by decide +kernel
theorem dX3_addUp_65 : decode cX3_addUp 65 = .ok (.if_icmp .ge 15, 3) := by decide +kernel
theorem dX3_addUp_68 : decode cX3_addUp 68 = .ok (.aload_n 0, 1) := by decide +kernel
theorem dX3_addUp_69 : decode cX3_addUp 69 = .ok (.iload_n 1, 1) := by decide +kernel
theorem dX3_addUp_70 : decode cX3_addUp 70 = .ok (.iload_n 2, 1) := by decide +kernel
theorem dX3_addUp_71 : decode cX3_addUp 71 = .ok (.invokevirtual 86, 3) := by decide +kernel
theorem dX3_addUp_74 : decode cX3_addUp 74 = .ok (.iinc 2 1, 3) := by decide +kernel
theorem dX3_addUp_77 : decode cX3_addUp 77 = .ok (.goto (-17), 3) := by decide +kernel
theorem dX3_addUp_80 : decode cX3_addUp 80 = .ok (.iconst 0, 1) := by decide +kernel
theorem dX3_addUp_81 : decode cX3_addUp 81 = .ok (.istore_n 2, 1) := by decide +kernel
theorem dX3_addUp_82 : decode cX3_addUp 82 = .ok (.iload_n 2, 1) := by decide +kernel
theorem dX3_addUp_83 : decode cX3_addUp 83 = .ok (.bipush 12, 2) := by decide +kernel
theorem dX3_addUp_85 : decode cX3_addUp 85 = .ok (.if_icmp .ge 47, 3) := by decide +kernel
