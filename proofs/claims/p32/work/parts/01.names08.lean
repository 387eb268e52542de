theorem dX9_init_19 : decode cX9_init 19 = .ok (.bipush 6, 2) := by decide +kernel
theorem dX9_init_21 : decode cX9_init 21 = .ok (.newarray .int, 2) := by decide +kernel
theorem dX9_init_23 : decode cX9_init 23 = .ok (.putfield 20, 3) := by decide +kernel
theorem dX9_init_26 : decode cX9_init 26 = .ok (.aload_n 0, 1) := by decide +kernel
theorem dX9_init_27 : decode cX9_init 27 = .ok (.iconst 0, 1) := by decide +kernel
theorem dX9_init_28 : decode cX9_init 28 = .ok (.putfield 23, 3) := by decide +kernel
theorem dX9_init_31 : decode cX9_init 31 = .ok (.aload_n 0, 1) := by decide +kernel
theorem dX9_init_32 : decode cX9_init 32 = .ok (.aload_n 1, 1) := by decide +kernel
theorem dX9_init_33 : decode cX9_init 33 = .ok (.putfield 27, 3) := by decide +kernel
theorem dX9_init_36 : decode cX9_init 36 = .ok (.return_, 1) := by decide +kernel
set_option maxRecDepth 20000 in
theorem ggX9_alike_J7_fill_53178 : GoodIn wsX9_alike wsJ7_fill_53178 := goodIn_r _ [7] (by decide +kernel) (by decide +kernel)
set_option maxRecDepth 20000 in
theorem gX9_alike_J7_fill_53178 : GoodIn wsX9_alike (va_wsS RX9 31 yJ7_fill_53178 wsJ7_fill_53178) := goodIn_app (goodIn_of _ (by decide +kernel)) ggX9_alike_J7_fill_53178
set_option maxRecDepth 20000 in
theorem ggX9_alike_X5_isTold : GoodIn wsX9_alike wsX5_isTold := goodIn_r _ [12, 13, 14, 15, 11, 16, 17, 32, 33, 34] (by decide +kernel) (by decide +kernel)
set_option maxRecDepth 20000 in
theorem gX9_alike_X5_isTold : GoodIn wsX9_alike (wsV RX9 37 RX5 yX5_isTold wsX5_isTold) := goodIn_app (goodIn_of _ (by decide +kernel)) ggX9_alike_X5_isTold
set_option maxRecDepth 20000 in
theorem ggX9_alike_X5_toldOf : GoodIn wsX9_alike wsX5_toldOf := goodIn_r _ [16, 17, 32, 33, 34] (by decide +kernel) (by decide +kernel)
set_option maxRecDepth 20000 in
theorem gX9_alike_X5_toldOf : GoodIn wsX9_alike (wsV RX9 41 RX5 yX5_toldOf wsX5_toldOf) := goodIn_app (goodIn_of _ (by decide +kernel)) ggX9_alike_X5_toldOf
set_option maxRecDepth 20000 in
theorem ggX9_alike_X10_signOf : GoodIn wsX9_alike wsX10_signOf := goodIn_r _ [21] (by decide +kernel) (by decide +kernel)
set_option maxRecDepth 20000 in
theorem gX9_alike_X10_signOf_n45 : GoodIn wsX9_alike (wsX10_signOf) := ggX9_alike_X10_signOf
set_option maxRecDepth 20000 in
theorem ggX9_alike_X9_byChance : GoodIn wsX9_alike wsX9_byChance := goodIn_r _ [26, 1, 2, 27, 28, 29, 30, 31] (by decide +kernel) (by decide +kernel)
set_option maxRecDepth 20000 in
theorem gX9_alike_X9_byChance : GoodIn wsX9_alike (wsV RX9 49 RX9 yX9_byChance wsX9_byChance) := goodIn_app (goodIn_of _ (by decide +kernel)) ggX9_alike_X9_byChance
theorem dX9_alike_0 : decode cX9_alike 0 = .ok (.aload_n 0, 1) := by decide +kernel
theorem dX9_alike_1 : decode cX9_alike 1 = .ok (.getfield 9, 3) := by decide +kernel
theorem dX9_alike_4 : decode cX9_alike 4 = .ok (.iconst 0, 1) := by decide +kernel
theorem dX9_alike_5 : decode cX9_alike 5 = .ok (.invokestatic 31, 3) := by decide +kernel
theorem dX9_alike_8 : decode cX9_alike 8 = .ok (.aload_n 0, 1) := by decide +kernel
theorem dX9_alike_9 : decode cX9_alike 9 = .ok (.getfield 15, 3) := by decide +kernel
theorem dX9_alike_12 : decode cX9_alike 12 = .ok (.iconst 0, 1) := by decide +kernel
theorem dX9_alike_13 : decode cX9_alike 13 = .ok (.invokestatic 31, 3) := by decide +kernel
theorem dX9_alike_16 : decode cX9_alike 16 = .ok (.iconst 0, 1) := by decide +kernel
theorem dX9_alike_17 : decode cX9_alike 17 = .ok (.istore 4, 2) := by decide +kernel
theorem dX9_alike_19 : decode cX9_alike 19 = .ok (.iconst 0, 1) := by decide +kernel
theorem dX9_alike_20 : decode cX9_alike 20 = .ok (.istore 5, 2) := by decide +kernel
theorem dX9_alike_22 : decode cX9_alike 22 = .ok (.iconst 0, 1) := by decide +kernel
theorem dX9_alike_23 : decode cX9_alike 23 = .ok (.istore 6, 2) := by decide +kernel
theorem dX9_alike_25 : decode cX9_alike 25 = .ok (.iload 6, 2) := by decide +kernel
theorem dX9_alike_27 : decode cX9_alike 27 = .ok (.bipush 24, 2) := by decide +kernel
theorem dX9_alike_29 : decode cX9_alike 29 = .ok (.if_icmp .ge 111, 3) := by decide +kernel
theorem dX9_alike_32 : decode cX9_alike 32 = .ok (.aload_n 0, 1) := by decide +kernel
theorem dX9_alike_33 : decode cX9_alike 33 = .ok (.getfield 27, 3) := by decide +kernel
theorem dX9_alike_36 : decode cX9_alike 36 = .ok (.iload_n 1, 1) := by decide +kernel
theorem dX9_alike_37 : decode cX9_alike 37 = .ok (.iload 6, 2) := by decide +kernel
theorem dX9_alike_39 : decode cX9_alike 39 = .ok (.invokevirtual 37, 3) := by decide +kernel
theorem dX9_alike_42 : decode cX9_alike 42 = .ok (.ifCond .eq 92, 3) := by decide +kernel
theorem dX9_alike_45 : decode cX9_alike 45 = .ok (.aload_n 0, 1) := by decide +kernel
theorem dX9_alike_46 : decode cX9_alike 46 = .ok (.getfield 27, 3) := by decide +kernel
theorem dX9_alike_49 : decode cX9_alike 49 = .ok (.iload_n 2, 1) := by decide +kernel
theorem dX9_alike_50 : decode cX9_alike 50 = .ok (.iload 6, 2) := by decide +kernel
theorem dX9_alike_52 : decode cX9_alike 52 = .ok (.invokevirtual 37, 3) := by decide +kernel
theorem dX9_alike_55 : decode cX9_alike 55 = .ok (.ifCond .eq 79, 3) := by decide +kernel
theorem dX9_alike_58 : decode cX9_alike 58 = .ok (.aload_n 0, 1) := by decide +kernel
theorem dX9_alike_59 : decode cX9_alike 59 = .ok (.getfield 27, 3) := by decide +kernel
theorem dX9_alike_62 : decode cX9_alike 62 = .ok (.iload_n 1, 1) := by decide +kernel
theorem dX9_alike_63 : decode cX9_alike 63 = .ok (.iload 6, 2) := by decide +kernel
theorem dX9_alike_65 : decode cX9_alike 65 = .ok (.invokevirtual 41, 3) := by decide +kernel
theorem dX9_alike_68 : decode cX9_alike 68 = .ok (.invokestatic 45, 3) := by decide +kernel
theorem dX9_alike_71 : decode cX9_alike 71 = .ok (.istore 7, 2) := by decide +kernel
theorem dX9_alike_73 : decode cX9_alike 73 = .ok (.aload_n 0, 1) := by decide +kernel
theorem dX9_alike_74 : decode cX9_alike 74 = .ok (.getfield 27, 3) := by decide +kernel
theorem dX9_alike_77 : decode cX9_alike 77 = .ok (.iload_n 2, 1) := by decide +kernel
theorem dX9_alike_78 : decode cX9_alike 78 = .ok (.iload 6, 2) := by decide +kernel
theorem dX9_alike_80 : decode cX9_alike 80 = .ok (.invokevirtual 41, 3) := by decide +kernel
theorem dX9_alike_83 : decode cX9_alike 83 = .ok (.invokestatic 45, 3) := by decide +kernel
theorem dX9_alike_86 : decode cX9_alike 86 = .ok (.istore 8, 2) := by decide +kernel
theorem dX9_alike_88 : decode cX9_alike 88 = .ok (.iinc 4 1, 3) := by decide +kernel
theorem dX9_alike_91 : decode cX9_alike 91 = .ok (.iload 5, 2) := by decide +kernel
theorem dX9_alike_93 : decode cX9_alike 93 = .ok (.iload 7, 2) := by decide +kernel
theorem dX9_alike_95 : decode cX9_alike 95 = .ok (.iload 8, 2) := by decide +kernel
theorem dX9_alike_97 : decode cX9_alike 97 = .ok (.if_icmp .ne 7, 3) := by decide +kernel
theorem dX9_alike_100 : decode cX9_alike 100 = .ok (.iconst 1, 1) := by decide +kernel
theorem dX9_alike_101 : decode cX9_alike 101 = .ok (.goto 4, 3) := by decide +kernel
theorem dX9_alike_104 : decode cX9_alike 104 = .ok (.iconst 0, 1) := by decide +kernel
theorem dX9_alike_105 : decode cX9_alike 105 = .ok (.iadd, 1) := by decide +kernel
theorem dX9_alike_106 : decode cX9_alike 106 = .ok (.istore 5, 2) := by decide +kernel
theorem dX9_alike_108 : decode cX9_alike 108 = .ok (.aload_n 0, 1) := by decide +kernel
theorem dX9_alike_109 : decode cX9_alike 109 = .ok (.getfield 9, 3) := by decide +kernel
theorem dX9_alike_112 : decode cX9_alike 112 = .ok (.iload 7, 2) := by decide +kernel
theorem dX9_alike_114 : decode cX9_alike 114 = .ok (.iconst 1, 1) := by decide +kernel
theorem dX9_alike_115 : decode cX9_alike 115 = .ok (.iadd, 1) := by decide +kernel
theorem dX9_alike_116 : decode cX9_alike 116 = .ok (.dup2, 1) := by decide +kernel
theorem dX9_alike_117 : decode cX9_alike 117 = .ok (.iaload, 1) := by decide +kernel
theorem dX9_alike_118 : decode cX9_alike 118 = .ok (.iconst 1, 1) := by decide +kernel
theorem dX9_alike_119 : decode cX9_alike 119 = .ok (.iadd, 1) := by decide +kernel
theorem dX9_alike_120 : decode cX9_alike 120 = .ok (.iastore, 1) := by decide +kernel
theorem dX9_alike_121 : decode cX9_alike 121 = .ok (.aload_n 0, 1) := by decide +kernel
theorem dX9_alike_122 : decode cX9_alike 122 = .ok (.getfield 15, 3) := by decide +kernel
theorem dX9_alike_125 : decode cX9_alike 125 = .ok (.iload 8, 2) := by decide +kernel
theorem dX9_alike_127 : decode cX9_alike 127 = .ok (.iconst 1, 1) := by decide +kernel
theorem dX9_alike_128 : decode cX9_alike 128 = .ok (.iadd, 1) := by decide +kernel
theorem dX9_alike_129 : decode cX9_alike 129 = .ok (.dup2, 1) := by decide +kernel
theorem dX9_alike_130 : decode cX9_alike 130 = .ok (.iaload, 1) := by decide +kernel
theorem dX9_alike_131 : decode cX9_alike 131 = .ok (.iconst 1, 1) := by decide +kernel
theorem dX9_alike_132 : decode cX9_alike 132 = .ok (.iadd, 1) := by decide +kernel
theorem dX9_alike_133 : decode cX9_alike 133 = .ok (.iastore, 1) := by decide +kernel
theorem dX9_alike_134 : decode cX9_alike 134 = .ok (.iinc 6 1, 3) := by decide +kernel
theorem dX9_alike_137 : decode cX9_alike 137 = .ok (.goto (-112), 3) := by decide +kernel
theorem dX9_alike_140 : decode cX9_alike 140 = .ok (.iload_n 3, 1) := by decide +kernel
theorem dX9_alike_141 : decode cX9_alike 141 = .ok (.iconst 2, 1) := by decide +kernel
theorem dX9_alike_142 : decode cX9_alike 142 = .ok (.if_icmp .ne 10, 3) := by decide +kernel
theorem dX9_alike_145 : decode cX9_alike 145 = .ok (.aload_n 0, 1) := by decide +kernel
theorem dX9_alike_146 : decode cX9_alike 146 = .ok (.iload 4, 2) := by decide +kernel
theorem dX9_alike_148 : decode cX9_alike 148 = .ok (.invokevirtual 49, 3) := by decide +kernel
theorem dX9_alike_151 : decode cX9_alike 151 = .ok (.ireturn, 1) := by decide +kernel
theorem dX9_alike_152 : decode cX9_alike 152 = .ok (.iload_n 3, 1) := by decide +kernel
theorem dX9_alike_153 : decode cX9_alike 153 = .ok (.ifCond .ne 8, 3) := by decide +kernel
theorem dX9_alike_156 : decode cX9_alike 156 = .ok (.iload 5, 2) := by decide +kernel
theorem dX9_alike_158 : decode cX9_alike 158 = .ok (.goto 5, 3) := by decide +kernel
theorem dX9_alike_161 : decode cX9_alike 161 = .ok (.iload 4, 2) := by decide +kernel
theorem dX9_alike_163 : decode cX9_alike 163 = .ok (.ireturn, 1) := by decide +kernel
theorem dX9_byChance_0 : decode cX9_byChance 0 = .ok (.iload_n 1, 1) := by decide +kernel
theorem dX9_byChance_1 : decode cX9_byChance 1 = .ok (.ifCond .ne 6, 3) := by decide +kernel
theorem dX9_byChance_4 : decode cX9_byChance 4 = .ok (.bipush (-4), 2) := by decide +kernel
theorem dX9_byChance_6 : decode cX9_byChance 6 = .ok (.ireturn, 1) := by decide +kernel
theorem dX9_byChance_7 : decode cX9_byChance 7 = .ok (.aload_n 0, 1) := by decide +kernel
theorem dX9_byChance_8 : decode cX9_byChance 8 = .ok (.getfield 9, 3) := by decide +kernel
theorem dX9_byChance_11 : decode cX9_byChance 11 = .ok (.iconst 0, 1) := by decide +kernel
theorem dX9_byChance_12 : decode cX9_byChance 12 = .ok (.iaload, 1) := by decide +kernel
theorem dX9_byChance_13 : decode cX9_byChance 13 = .ok (.aload_n 0, 1) := by decide +kernel
theorem dX9_byChance_14 : decode cX9_byChance 14 = .ok (.getfield 15, 3) := by decide +kernel
theorem dX9_byChance_17 : decode cX9_byChance 17 = .ok (.iconst 0, 1) := by decide +kernel
theorem dX9_byChance_18 : decode cX9_byChance 18 = .ok (.iaload, 1) := by decide +kernel
theorem dX9_byChance_19 : decode cX9_byChance 19 = .ok (.imul, 1) := by decide +kernel
theorem dX9_byChance_20 : decode cX9_byChance 20 = .ok (.aload_n 0, 1) := by decide +kernel
theorem dX9_byChance_21 : decode cX9_byChance 21 = .ok (.getfield 9, 3) := by decide +kernel
theorem dX9_byChance_24 : decode cX9_byChance 24 = .ok (.iconst 1, 1) := by decide +kernel
theorem dX9_byChance_25 : decode cX9_byChance 25 = .ok (.iaload, 1) := by decide +kernel
theorem dX9_byChance_26 : decode cX9_byChance 26 = .ok (.aload_n 0, 1) := by decide +kernel
theorem dX9_byChance_27 : decode cX9_byChance 27 = .ok (.getfield 15, 3) := by decide +kernel
theorem dX9_byChance_30 : decode cX9_byChance 30 = .ok (.iconst 1, 1) := by decide +kernel
theorem dX9_byChance_31 : decode cX9_byChance 31 = .ok (.iaload, 1) := by decide +kernel
theorem dX9_byChance_32 : decode cX9_byChance 32 = .ok (.imul, 1) := by decide +kernel
theorem dX9_byChance_33 : decode cX9_byChance 33 = .ok (.iadd, 1) := by decide +kernel
theorem dX9_byChance_34 : decode cX9_byChance 34 = .ok (.aload_n 0, 1) := by decide +kernel
theorem dX9_byChance_35 : decode cX9_byChance 35 = .ok (.getfield 9, 3) := by decide +kernel
theorem dX9_byChance_38 : decode cX9_byChance 38 = .ok (.iconst 2, 1) := by decide +kernel
theorem dX9_byChance_39 : decode cX9_byChance 39 = .ok (.iaload, 1) := by decide +kernel
theorem dX9_byChance_40 : decode cX9_byChance 40 = .ok (.aload_n 0, 1) := by decide +kernel
theorem dX9_byChance_41 : decode cX9_byChance 41 = .ok (.getfield 15, 3) := by decide +kernel
theorem dX9_byChance_44 : decode cX9_byChance 44 = .ok (.iconst 2, 1) := by decide +kernel
theorem dX9_byChance_45 : decode cX9_byChance 45 = .ok (.iaload, 1) := by decide +kernel
theorem dX9_byChance_46 : decode cX9_byChance 46 = .ok (.imul, 1) := by decide +kernel
theorem dX9_byChance_47 : decode cX9_byChance 47 = .ok (.iadd, 1) := by decide +kernel
theorem dX9_byChance_48 : decode cX9_byChance 48 = .ok (.iload_n 1, 1) := by decide +kernel
theorem dX9_byChance_49 : decode cX9_byChance 49 = .ok (.idiv, 1) := by decide +kernel
theorem dX9_byChance_50 : decode cX9_byChance 50 = .ok (.ireturn, 1) := by decide +kernel
set_option maxRecDepth 20000 in
theorem ggX9_leaning_X9_fillRow : GoodIn wsX9_leaning wsX9_fillRow := goodIn_r _ [7, 2, 1, 8, 9, 10, 11, 12, 13, 14, 15, 16, 17, 18, 19, 20, 21, 6, 22, 23, 28, 29, 30, 31, 32, 33, 34, 35] (by decide +kernel) (by decide +kernel)
set_option maxRecDepth 20000 in
theorem gX9_leaning_X9_fillRow : GoodIn wsX9_leaning (wsV RX9 52 RX9 yX9_fillRow wsX9_fillRow) := goodIn_app (goodIn_of _ (by decide +kernel)) ggX9_leaning_X9_fillRow
set_option maxRecDepth 20000 in
theorem ggX9_leaning_X5_isTold : GoodIn wsX9_leaning wsX5_isTold := goodIn_r _ [12, 13, 14, 15, 11, 16, 17, 33, 34, 35] (by decide +kernel) (by decide +kernel)
set_option maxRecDepth 20000 in
theorem gX9_leaning_X5_isTold : GoodIn wsX9_leaning (wsV RX9 37 RX5 yX5_isTold wsX5_isTold) := goodIn_app (goodIn_of _ (by decide +kernel)) ggX9_leaning_X5_isTold
set_option maxRecDepth 20000 in
theorem ggX9_leaning_X5_toldOf : GoodIn wsX9_leaning wsX5_toldOf := goodIn_r _ [16, 17, 33, 34, 35] (by decide +kernel) (by decide +kernel)
set_option maxRecDepth 20000 in
theorem gX9_leaning_X5_toldOf : GoodIn wsX9_leaning (wsV RX9 41 RX5 yX5_toldOf wsX5_toldOf) := goodIn_app (goodIn_of _ (by decide +kernel)) ggX9_leaning_X5_toldOf
set_option maxRecDepth 20000 in
theorem ggX9_leaning_X9_meanOfRow : GoodIn wsX9_leaning wsX9_meanOfRow := goodIn_r _ [27, 2, 23, 28, 29, 30, 31, 32] (by decide +kernel) (by decide +kernel)
set_option maxRecDepth 20000 in
theorem gX9_leaning_X9_meanOfRow : GoodIn wsX9_leaning (wsV RX9 56 RX9 yX9_meanOfRow wsX9_meanOfRow) := goodIn_app (goodIn_of _ (by decide +kernel)) ggX9_leaning_X9_meanOfRow
theorem dX9_leaning_0 : decode cX9_leaning 0 = .ok (.iconst 0, 1) := by decide +kernel
theorem dX9_leaning_1 : decode cX9_leaning 1 = .ok (.istore_n 3, 1) := by decide +kernel
theorem dX9_leaning_2 : decode cX9_leaning 2 = .ok (.iconst 0, 1) := by decide +kernel
theorem dX9_leaning_3 : decode cX9_leaning 3 = .ok (.istore 4, 2) := by decide +kernel
theorem dX9_leaning_5 : decode cX9_leaning 5 = .ok (.iconst 0, 1) := by decide +kernel
theorem dX9_leaning_6 : decode cX9_leaning 6 = .ok (.istore 5, 2) := by decide +kernel
theorem dX9_leaning_8 : decode cX9_leaning 8 = .ok (.iload 5, 2) := by decide +kernel
theorem dX9_leaning_10 : decode cX9_leaning 10 = .ok (.bipush 24, 2) := by decide +kernel
theorem dX9_leaning_12 : decode cX9_leaning 12 = .ok (.if_icmp .ge 57, 3) := by decide +kernel
theorem dX9_leaning_15 : decode cX9_leaning 15 = .ok (.aload_n 0, 1) := by decide +kernel
theorem dX9_leaning_16 : decode cX9_leaning 16 = .ok (.iload_n 1, 1) := by decide +kernel
theorem dX9_leaning_17 : decode cX9_leaning 17 = .ok (.iload 5, 2) := by decide +kernel
theorem dX9_leaning_19 : decode cX9_leaning 19 = .ok (.invokevirtual 52, 3) := by decide +kernel
theorem dX9_leaning_22 : decode cX9_leaning 22 = .ok (.aload_n 0, 1) := by decide +kernel
theorem dX9_leaning_23 : decode cX9_leaning 23 = .ok (.getfield 27, 3) := by decide +kernel
theorem dX9_leaning_26 : decode cX9_leaning 26 = .ok (.iload_n 1, 1) := by decide +kernel
theorem dX9_leaning_27 : decode cX9_leaning 27 = .ok (.iload 5, 2) := by decide +kernel
theorem dX9_leaning_29 : decode cX9_leaning 29 = .ok (.invokevirtual 37, 3) := by decide +kernel
theorem dX9_leaning_32 : decode cX9_leaning 32 = .ok (.ifCond .eq 31, 3) := by decide +kernel
theorem dX9_leaning_35 : decode cX9_leaning 35 = .ok (.aload_n 0, 1) := by decide +kernel
theorem dX9_leaning_36 : decode cX9_leaning 36 = .ok (.getfield 23, 3) := by decide +kernel
theorem dX9_leaning_39 : decode cX9_leaning 39 = .ok (.ifCond .le 24, 3) := by decide +kernel
theorem dX9_leaning_42 : decode cX9_leaning 42 = .ok (.iload_n 3, 1) := by decide +kernel
theorem dX9_leaning_43 : decode cX9_leaning 43 = .ok (.aload_n 0, 1) := by decide +kernel
theorem dX9_leaning_44 : decode cX9_leaning 44 = .ok (.getfield 27, 3) := by decide +kernel
theorem dX9_leaning_47 : decode cX9_leaning 47 = .ok (.iload_n 1, 1) := by decide +kernel
theorem dX9_leaning_48 : decode cX9_leaning 48 = .ok (.iload 5, 2) := by decide +kernel
theorem dX9_leaning_50 : decode cX9_leaning 50 = .ok (.invokevirtual 41, 3) := by decide +kernel
theorem dX9_leaning_53 : decode cX9_leaning 53 = .ok (.aload_n 0, 1) := by decide +kernel
theorem dX9_leaning_54 : decode cX9_leaning 54 = .ok (.invokevirtual 56, 3) := by decide +kernel
theorem dX9_leaning_57 : decode cX9_leaning 57 = .ok (.isub, 1) := by decide +kernel
theorem dX9_leaning_58 : decode cX9_leaning 58 = .ok (.iadd, 1) := by decide +kernel
theorem dX9_leaning_59 : decode cX9_leaning 59 = .ok (.istore_n 3, 1) := by decide +kernel
theorem dX9_leaning_60 : decode cX9_leaning 60 = .ok (.iinc 4 1, 3) := by decide +kernel
theorem dX9_leaning_63 : decode cX9_leaning 63 = .ok (.iinc 5 1, 3) := by decide +kernel
theorem dX9_leaning_66 : decode cX9_leaning 66 = .ok (.goto (-58), 3) := by decide +kernel
theorem dX9_leaning_69 : decode cX9_leaning 69 = .ok (.iload_n 2, 1) := by decide +kernel
theorem dX9_leaning_70 : decode cX9_leaning 70 = .ok (.ifCond .ne 7, 3) := by decide +kernel
theorem dX9_leaning_73 : decode cX9_leaning 73 = .ok (.iload_n 3, 1) := by decide +kernel
theorem dX9_leaning_74 : decode cX9_leaning 74 = .ok (.goto 5, 3) := by decide +kernel
theorem dX9_leaning_77 : decode cX9_leaning 77 = .ok (.iload 4, 2) := by decide +kernel
theorem dX9_leaning_79 : decode cX9_leaning 79 = .ok (.ireturn, 1) := by decide +kernel
theorem dX9_meanOfRow_0 : decode cX9_meanOfRow 0 = .ok (.iconst 0, 1) := by decide +kernel
theorem dX9_meanOfRow_1 : decode cX9_meanOfRow 1 = .ok (.istore_n 1, 1) := by decide +kernel
theorem dX9_meanOfRow_2 : decode cX9_meanOfRow 2 = .ok (.iconst 0, 1) := by decide +kernel
theorem dX9_meanOfRow_3 : decode cX9_meanOfRow 3 = .ok (.istore_n 2, 1) := by decide +kernel
theorem dX9_meanOfRow_4 : decode cX9_meanOfRow 4 = .ok (.iload_n 2, 1) := by decide +kernel
theorem dX9_meanOfRow_5 : decode cX9_meanOfRow 5 = .ok (.aload_n 0, 1) := by decide +kernel
theorem dX9_meanOfRow_6 : decode cX9_meanOfRow 6 = .ok (.getfield 23, 3) := by decide +kernel
theorem dX9_meanOfRow_9 : decode cX9_meanOfRow 9 = .ok (.if_icmp .ge 18, 3) := by decide +kernel
theorem dX9_meanOfRow_12 : decode cX9_meanOfRow 12 = .ok (.iload_n 1, 1) := by decide +kernel
theorem dX9_meanOfRow_13 : decode cX9_meanOfRow 13 = .ok (.aload_n 0, 1) := by decide +kernel
theorem dX9_meanOfRow_14 : decode cX9_meanOfRow 14 = .ok (.getfield 20, 3) := by decide +kernel
theorem dX9_meanOfRow_17 : decode cX9_meanOfRow 17 = .ok (.iload_n 2, 1) := by decide +kernel
theorem dX9_meanOfRow_18 : decode cX9_meanOfRow 18 = .ok (.iaload, 1) := by decide +kernel
theorem dX9_meanOfRow_19 : decode cX9_meanOfRow 19 = .ok (.iadd, 1) := by decide +kernel
theorem dX9_meanOfRow_20 : decode cX9_meanOfRow 20 = .ok (.istore_n 1, 1) := by decide +kernel
theorem dX9_meanOfRow_21 : decode cX9_meanOfRow 21 = .ok (.iinc 2 1, 3) := by decide +kernel
theorem dX9_meanOfRow_24 : decode cX9_meanOfRow 24 = .ok (.goto (-20), 3) := by decide +kernel
theorem dX9_meanOfRow_27 : decode cX9_meanOfRow 27 = .ok (.aload_n 0, 1) := by decide +kernel
theorem dX9_meanOfRow_28 : decode cX9_meanOfRow 28 = .ok (.getfield 23, 3) := by decide +kernel
theorem dX9_meanOfRow_31 : decode cX9_meanOfRow 31 = .ok (.ifCond .ne 7, 3) := by decide +kernel
theorem dX9_meanOfRow_34 : decode cX9_meanOfRow 34 = .ok (.iconst 0, 1) := by decide +kernel
theorem dX9_meanOfRow_35 : decode cX9_meanOfRow 35 = .ok (.goto 9, 3) := by decide +kernel
theorem dX9_meanOfRow_38 : decode cX9_meanOfRow 38 = .ok (.iload_n 1, 1) := by decide +kernel
theorem dX9_meanOfRow_39 : decode cX9_meanOfRow 39 = .ok (.aload_n 0, 1) := by decide +kernel
theorem dX9_meanOfRow_40 : decode cX9_meanOfRow 40 = .ok (.getfield 23, 3) := by decide +kernel
theorem dX9_meanOfRow_43 : decode cX9_meanOfRow 43 = .ok (.idiv, 1) := by decide +kernel
theorem dX9_meanOfRow_44 : decode cX9_meanOfRow 44 = .ok (.ireturn, 1) := by decide +kernel
set_option maxRecDepth 20000 in
theorem ggX9_farthestNight_X9_fillRow : GoodIn wsX9_farthestNight wsX9_fillRow := goodIn_r _ [12, 2, 1, 13, 14, 15, 16, 17, 18, 19, 20, 21, 22, 23, 24, 25, 26, 11, 27, 3, 28, 29, 30, 31, 32, 33, 34, 35] (by decide +kernel) (by decide +kernel)
set_option maxRecDepth 20000 in
theorem gX9_farthestNight_X9_fillRow : GoodIn wsX9_farthestNight (wsV RX9 52 RX9 yX9_fillRow wsX9_fillRow) := goodIn_app (goodIn_of _ (by decide +kernel)) ggX9_farthestNight_X9_fillRow
set_option maxRecDepth 20000 in
theorem ggX9_farthestNight_X5_isTold : GoodIn wsX9_farthestNight wsX5_isTold := goodIn_r _ [17, 18, 19, 20, 16, 21, 22, 33, 34, 35] (by decide +kernel) (by decide +kernel)
set_option maxRecDepth 20000 in
theorem gX9_farthestNight_X5_isTold : GoodIn wsX9_farthestNight (wsV RX9 37 RX5 yX5_isTold wsX5_isTold) := goodIn_app (goodIn_of _ (by decide +kernel)) ggX9_farthestNight_X5_isTold
set_option maxRecDepth 20000 in
theorem ggX9_farthestNight_X5_toldOf : GoodIn wsX9_farthestNight wsX5_toldOf := goodIn_r _ [21, 22, 33, 34, 35] (by decide +kernel) (by decide +kernel)
set_option maxRecDepth 20000 in
theorem gX9_farthestNight_X5_toldOf : GoodIn wsX9_farthestNight (wsV RX9 41 RX5 yX5_toldOf wsX5_toldOf) := goodIn_app (goodIn_of _ (by decide +kernel)) ggX9_farthestNight_X5_toldOf
theorem dX9_farthestNight_0 : decode cX9_farthestNight 0 = .ok (.bipush (-4), 2) := by decide +kernel
theorem dX9_farthestNight_2 : decode cX9_farthestNight 2 = .ok (.istore_n 2, 1) := by decide +kernel
theorem dX9_farthestNight_3 : decode cX9_farthestNight 3 = .ok (.iconst (-1), 1) := by decide +kernel
theorem dX9_farthestNight_4 : decode cX9_farthestNight 4 = .ok (.istore_n 3, 1) := by decide +kernel
theorem dX9_farthestNight_5 : decode cX9_farthestNight 5 = .ok (.iconst 0, 1) := by decide +kernel
theorem dX9_farthestNight_6 : decode cX9_farthestNight 6 = .ok (.istore 4, 2) := by decide +kernel
theorem dX9_farthestNight_8 : decode cX9_farthestNight 8 = .ok (.iload 4, 2) := by decide +kernel
theorem dX9_farthestNight_10 : decode cX9_farthestNight 10 = .ok (.bipush 24, 2) := by decide +kernel
theorem dX9_farthestNight_12 : decode cX9_farthestNight 12 = .ok (.if_icmp .ge 78, 3) := by decide +kernel
theorem dX9_farthestNight_15 : decode cX9_farthestNight 15 = .ok (.aload_n 0, 1) := by decide +kernel
theorem dX9_farthestNight_16 : decode cX9_farthestNight 16 = .ok (.iload_n 1, 1) := by decide +kernel
theorem dX9_farthestNight_17 : decode cX9_farthestNight 17 = .ok (.iload 4, 2) := by decide +kernel
theorem dX9_farthestNight_19 : decode cX9_farthestNight 19 = .ok (.invokevirtual 52, 3) := by decide +kernel
theorem dX9_farthestNight_22 : decode cX9_farthestNight 22 = .ok (.aload_n 0, 1) := by decide +kernel
theorem dX9_farthestNight_23 : decode cX9_farthestNight 23 = .ok (.getfield 27, 3) := by decide +kernel
theorem dX9_farthestNight_26 : decode cX9_farthestNight 26 = .ok (.iload_n 1, 1) := by decide +kernel
theorem dX9_farthestNight_27 : decode cX9_farthestNight 27 = .ok (.iload 4, 2) := by decide +kernel
theorem dX9_farthestNight_29 : decode cX9_farthestNight 29 = .ok (.invokevirtual 37, 3) := by decide +kernel
theorem dX9_farthestNight_32 : decode cX9_farthestNight 32 = .ok (.ifCond .eq 52, 3) := by decide +kernel
theorem dX9_farthestNight_35 : decode cX9_farthestNight 35 = .ok (.aload_n 0, 1) := by decide +kernel
theorem dX9_farthestNight_36 : decode cX9_farthestNight 36 = .ok (.getfield 23, 3) := by decide +kernel
theorem dX9_farthestNight_39 : decode cX9_farthestNight 39 = .ok (.iconst 2, 1) := by decide +kernel
theorem dX9_farthestNight_40 : decode cX9_farthestNight 40 = .ok (.if_icmp .lt 44, 3) := by decide +kernel
theorem dX9_farthestNight_43 : decode cX9_farthestNight 43 = .ok (.aload_n 0, 1) := by decide +kernel
theorem dX9_farthestNight_44 : decode cX9_farthestNight 44 = .ok (.getfield 27, 3) := by decide +kernel
theorem dX9_farthestNight_47 : decode cX9_farthestNight 47 = .ok (.iload_n 1, 1) := by decide +kernel
theorem dX9_farthestNight_48 : decode cX9_farthestNight 48 = .ok (.iload 4, 2) := by decide +kernel
theorem dX9_farthestNight_50 : decode cX9_farthestNight 50 = .ok (.invokevirtual 41, 3) := by decide +kernel
theorem dX9_farthestNight_53 : decode cX9_farthestNight 53 = .ok (.aload_n 0, 1) := by decide +kernel
theorem dX9_farthestNight_54 : decode cX9_farthestNight 54 = .ok (.getfield 20, 3) := by decide +kernel
theorem dX9_farthestNight_57 : decode cX9_farthestNight 57 = .ok (.aload_n 0, 1) := by decide +kernel
theorem dX9_farthestNight_58 : decode cX9_farthestNight 58 = .ok (.getfield 23, 3) := by decide +kernel
theorem dX9_farthestNight_61 : decode cX9_farthestNight 61 = .ok (.iconst 1, 1) := by decide +kernel
theorem dX9_farthestNight_62 : decode cX9_farthestNight 62 = .ok (.isub, 1) := by decide +kernel
theorem dX9_farthestNight_63 : decode cX9_farthestNight 63 = .ok (.iconst 2, 1) := by decide +kernel
theorem dX9_farthestNight_64 : decode cX9_farthestNight 64 = .ok (.idiv, 1) := by decide +kernel
theorem dX9_farthestNight_65 : decode cX9_farthestNight 65 = .ok (.iaload, 1) := by decide +kernel
theorem dX9_farthestNight_66 : decode cX9_farthestNight 66 = .ok (.isub, 1) := by decide +kernel
theorem dX9_farthestNight_67 : decode cX9_farthestNight 67 = .ok (.invokestatic 60, 3) := by decide +kernel
theorem dX9_farthestNight_70 : decode cX9_farthestNight 70 = .ok (.istore 5, 2) := by decide +kernel
theorem dX9_farthestNight_72 : decode cX9_farthestNight 72 = .ok (.iload 5, 2) := by decide +kernel
theorem dX9_farthestNight_74 : decode cX9_farthestNight 74 = .ok (.iload_n 3, 1) := by decide +kernel
theorem dX9_farthestNight_75 : decode cX9_farthestNight 75 = .ok (.if_icmp .le 9, 3) := by decide +kernel
theorem dX9_farthestNight_78 : decode cX9_farthestNight 78 = .ok (.iload 4, 2) := by decide +kernel
theorem dX9_farthestNight_80 : decode cX9_farthestNight 80 = .ok (.istore_n 2, 1) := by decide +kernel
theorem dX9_farthestNight_81 : decode cX9_farthestNight 81 = .ok (.iload 5, 2) := by decide +kernel
theorem dX9_farthestNight_83 : decode cX9_farthestNight 83 = .ok (.istore_n 3, 1) := by decide +kernel
theorem dX9_farthestNight_84 : decode cX9_farthestNight 84 = .ok (.iinc 4 1, 3) := by decide +kernel
theorem dX9_farthestNight_87 : decode cX9_farthestNight 87 = .ok (.goto (-79), 3) := by decide +kernel
theorem dX9_farthestNight_90 : decode cX9_farthestNight 90 = .ok (.iload_n 2, 1) := by decide +kernel
theorem dX9_farthestNight_91 : decode cX9_farthestNight 91 = .ok (.ireturn, 1) := by decide +kernel
set_option maxRecDepth 20000 in
theorem ggX9_fillRow_X5_isTold : GoodIn wsX9_fillRow wsX5_isTold := goodIn_r _ [7, 8, 9, 10, 6, 11, 12, 25, 26, 27] (by decide +kernel) (by decide +kernel)
set_option maxRecDepth 20000 in
theorem gX9_fillRow_X5_isTold : GoodIn wsX9_fillRow (wsV RX9 37 RX5 yX5_isTold wsX5_isTold) := goodIn_app (goodIn_of _ (by decide +kernel)) ggX9_fillRow_X5_isTold
set_option maxRecDepth 20000 in
theorem ggX9_fillRow_X5_toldOf : GoodIn wsX9_fillRow wsX5_toldOf := goodIn_r _ [11, 12, 25, 26, 27] (by decide +kernel) (by decide +kernel)
set_option maxRecDepth 20000 in
theorem gX9_fillRow_X5_toldOf : GoodIn wsX9_fillRow (wsV RX9 41 RX5 yX5_toldOf wsX5_toldOf) := goodIn_app (goodIn_of _ (by decide +kernel)) ggX9_fillRow_X5_toldOf
set_option maxRecDepth 20000 in
theorem ggX9_fillRow_X9_putIntoRow : GoodIn wsX9_fillRow wsX9_putIntoRow := goodIn_r _ [18, 1, 19, 20, 21, 22, 23, 24] (by decide +kernel) (by decide +kernel)
set_option maxRecDepth 20000 in
theorem gX9_fillRow_X9_putIntoRow : GoodIn wsX9_fillRow (wsV RX9 65 RX9 yX9_putIntoRow wsX9_putIntoRow) := goodIn_app (goodIn_of _ (by decide +kernel)) ggX9_fillRow_X9_putIntoRow
theorem dX9_fillRow_0 : decode cX9_fillRow 0 = .ok (.aload_n 0, 1) := by decide +kernel
theorem dX9_fillRow_1 : decode cX9_fillRow 1 = .ok (.iconst 0, 1) := by decide +kernel
theorem dX9_fillRow_2 : decode cX9_fillRow 2 = .ok (.putfield 23, 3) := by decide +kernel
theorem dX9_fillRow_5 : decode cX9_fillRow 5 = .ok (.iconst 0, 1) := by decide +kernel
theorem dX9_fillRow_6 : decode cX9_fillRow 6 = .ok (.istore_n 3, 1) := by decide +kernel
theorem dX9_fillRow_7 : decode cX9_fillRow 7 = .ok (.iload_n 3, 1) := by decide +kernel
theorem dX9_fillRow_8 : decode cX9_fillRow 8 = .ok (.bipush 6, 2) := by decide +kernel
theorem dX9_fillRow_10 : decode cX9_fillRow 10 = .ok (.if_icmp .ge 39, 3) := by decide +kernel
theorem dX9_fillRow_13 : decode cX9_fillRow 13 = .ok (.iload_n 3, 1) := by decide +kernel
theorem dX9_fillRow_14 : decode cX9_fillRow 14 = .ok (.iload_n 1, 1) := by decide +kernel
theorem dX9_fillRow_15 : decode cX9_fillRow 15 = .ok (.if_icmp .eq 28, 3) := by decide +kernel
theorem dX9_fillRow_18 : decode cX9_fillRow 18 = .ok (.aload_n 0, 1) := by decide +kernel
theorem dX9_fillRow_19 : decode cX9_fillRow 19 = .ok (.getfield 27, 3) := by decide +kernel
theorem dX9_fillRow_22 : decode cX9_fillRow 22 = .ok (.iload_n 3, 1) := by decide +kernel
theorem dX9_fillRow_23 : decode cX9_fillRow 23 = .ok (.iload_n 2, 1) := by decide +kernel
theorem dX9_fillRow_24 : decode cX9_fillRow 24 = .ok (.invokevirtual 37, 3) := by decide +kernel
theorem dX9_fillRow_27 : decode cX9_fillRow 27 = .ok (.ifCond .eq 16, 3) := by decide +kernel
theorem dX9_fillRow_30 : decode cX9_fillRow 30 = .ok (.aload_n 0, 1) := by decide +kernel
theorem dX9_fillRow_31 : decode cX9_fillRow 31 = .ok (.aload_n 0, 1) := by decide +kernel
theorem dX9_fillRow_32 : decode cX9_fillRow 32 = .ok (.getfield 27, 3) := by decide +kernel
theorem dX9_fillRow_35 : decode cX9_fillRow 35 = .ok (.iload_n 3, 1) := by decide +kernel
theorem dX9_fillRow_36 : decode cX9_fillRow 36 = .ok (.iload_n 2, 1) := by decide +kernel
theorem dX9_fillRow_37 : decode cX9_fillRow 37 = .ok (.invokevirtual 41, 3) := by decide +kernel
theorem dX9_fillRow_40 : decode cX9_fillRow 40 = .ok (.invokevirtual 65, 3) := by decide +kernel
theorem dX9_fillRow_43 : decode cX9_fillRow 43 = .ok (.iinc 3 1, 3) := by decide +kernel
theorem dX9_fillRow_46 : decode cX9_fillRow 46 = .ok (.goto (-39), 3) := by decide +kernel
theorem dX9_fillRow_49 : decode cX9_fillRow 49 = .ok (.return_, 1) := by decide +kernel
theorem dX9_putIntoRow_0 : decode cX9_putIntoRow 0 = .ok (.aload_n 0, 1) := by decide +kernel
theorem dX9_putIntoRow_1 : decode cX9_putIntoRow 1 = .ok (.getfield 23, 3) := by decide +kernel
theorem dX9_putIntoRow_4 : decode cX9_putIntoRow 4 = .ok (.istore_n 2, 1) := by decide +kernel
theorem dX9_putIntoRow_5 : decode cX9_putIntoRow 5 = .ok (.iload_n 2, 1) := by decide +kernel
theorem dX9_putIntoRow_6 : decode cX9_putIntoRow 6 = .ok (.ifCond .le 35, 3) := by decide +kernel
theorem dX9_putIntoRow_9 : decode cX9_putIntoRow 9 = .ok (.aload_n 0, 1) := by decide +kernel
theorem dX9_putIntoRow_10 : decode cX9_putIntoRow 10 = .ok (.getfield 20, 3) := by decide +kernel
theorem dX9_putIntoRow_13 : decode cX9_putIntoRow 13 = .ok (.iload_n 2, 1) := by decide +kernel
theorem dX9_putIntoRow_14 : decode cX9_putIntoRow 14 = .ok (.iconst 1, 1) := by decide +kernel
theorem dX9_putIntoRow_15 : decode cX9_putIntoRow 15 = .ok (.isub, 1) := by decide +kernel
theorem dX9_putIntoRow_16 : decode cX9_putIntoRow 16 = .ok (.iaload, 1) := by decide +kernel
theorem dX9_putIntoRow_17 : decode cX9_putIntoRow 17 = .ok (.iload_n 1, 1) := by decide +kernel
theorem dX9_putIntoRow_18 : decode cX9_putIntoRow 18 = .ok (.if_icmp .le 23, 3) := by decide +kernel
theorem dX9_putIntoRow_21 : decode cX9_putIntoRow 21 = .ok (.aload_n 0, 1) := by decide +kernel
theorem dX9_putIntoRow_22 : decode cX9_putIntoRow 22 = .ok (.getfield 20, 3) := by decide +kernel
theorem dX9_putIntoRow_25 : decode cX9_putIntoRow 25 = .ok (.iload_n 2, 1) := by decide +kernel
theorem dX9_putIntoRow_26 : decode cX9_putIntoRow 26 = .ok (.aload_n 0, 1) := by decide +kernel
theorem dX9_putIntoRow_27 : decode cX9_putIntoRow 27 = .ok (.getfield 20, 3) := by decide +kernel
theorem dX9_putIntoRow_30 : decode cX9_putIntoRow 30 = .ok (.iload_n 2, 1) := by decide +kernel
theorem dX9_putIntoRow_31 : decode cX9_putIntoRow 31 = .ok (.iconst 1, 1) := by decide +kernel
theorem dX9_putIntoRow_32 : decode cX9_putIntoRow 32 = .ok (.isub, 1) := by decide +kernel
theorem dX9_putIntoRow_33 : decode cX9_putIntoRow 33 = .ok (.iaload, 1) := by decide +kernel
theorem dX9_putIntoRow_34 : decode cX9_putIntoRow 34 = .ok (.iastore, 1) := by decide +kernel
theorem dX9_putIntoRow_35 : decode cX9_putIntoRow 35 = .ok (.iinc 2 (-1), 3) := by decide +kernel
theorem dX9_putIntoRow_38 : decode cX9_putIntoRow 38 = .ok (.goto (-33), 3) := by decide +kernel
theorem dX9_putIntoRow_41 : decode cX9_putIntoRow 41 = .ok (.aload_n 0, 1) := by decide +kernel
theorem dX9_putIntoRow_42 : decode cX9_putIntoRow 42 = .ok (.getfield 20, 3) := by decide +kernel
theorem dX9_putIntoRow_45 : decode cX9_putIntoRow 45 = .ok (.iload_n 2, 1) := by decide +kernel
theorem dX9_putIntoRow_46 : decode cX9_putIntoRow 46 = .ok (.iload_n 1, 1) := by decide +kernel
theorem dX9_putIntoRow_47 : decode cX9_putIntoRow 47 = .ok (.iastore, 1) := by decide +kernel
theorem dX9_putIntoRow_48 : decode cX9_putIntoRow 48 = .ok (.aload_n 0, 1) := by decide +kernel
theorem dX9_putIntoRow_49 : decode cX9_putIntoRow 49 = .ok (.dup, 1) := by decide +kernel
theorem dX9_putIntoRow_50 : decode cX9_putIntoRow 50 = .ok (.getfield 23, 3) := by decide +kernel
theorem dX9_putIntoRow_53 : decode cX9_putIntoRow 53 = .ok (.iconst 1, 1) := by decide +kernel
theorem dX9_putIntoRow_54 : decode cX9_putIntoRow 54 = .ok (.iadd, 1) := by decide +kernel
theorem dX9_putIntoRow_55 : decode cX9_putIntoRow 55 = .ok (.putfield 23, 3) := by decide +kernel
theorem dX9_putIntoRow_58 : decode cX9_putIntoRow 58 = .ok (.return_, 1) := by decide +kernel
set_option maxRecDepth 20000 in
theorem ggX10_init_X8_init : GoodIn wsX10_init wsX8_init := goodIn_r _ [48, 49, 2, 3, 50, 51, 52, 190, 191] (by decide +kernel) (by decide +kernel)
set_option maxRecDepth 20000 in
theorem gX10_init_X8_init_n9 : GoodIn wsX10_init (wsX8_init) := ggX10_init_X8_init
set_option maxRecDepth 20000 in
theorem ggX10_init_X6_init : GoodIn wsX10_init wsX6_init := goodIn_r _ [55, 56, 2, 3, 57, 58, 59, 60, 205, 206, 207] (by decide +kernel) (by decide +kernel)
set_option maxRecDepth 20000 in
theorem gX10_init_X6_init : GoodIn wsX10_init (wsX6_init) := ggX10_init_X6_init
set_option maxRecDepth 20000 in
theorem ggX10_init_X3_init : GoodIn wsX10_init wsX3_init := goodIn_r _ [62, 63, 2, 3, 57, 64, 65, 66, 67, 68, 69, 70, 71, 208, 209, 210, 211, 212, 213, 214, 215, 216, 217, 218, 219, 220] (by decide +kernel) (by decide +kernel)
set_option maxRecDepth 20000 in
theorem gX10_init_X3_init_n27 : GoodIn wsX10_init (wsX3_init) := ggX10_init_X3_init
set_option maxRecDepth 20000 in
theorem ggX10_init_X1_init : GoodIn wsX10_init wsX1_init := goodIn_r _ [74, 75, 2, 3, 57, 76, 77, 221, 222] (by decide +kernel) (by decide +kernel)
set_option maxRecDepth 20000 in
theorem gX10_init_X1_init : GoodIn wsX10_init (wsX1_init) := ggX10_init_X1_init
set_option maxRecDepth 20000 in
theorem ggX10_init_X2_init : GoodIn wsX10_init wsX2_init := goodIn_r _ [80, 81, 2, 3, 82, 83, 84, 85, 86, 223, 224, 225, 226] (by decide +kernel) (by decide +kernel)
set_option maxRecDepth 20000 in
theorem gX10_init_X2_init : GoodIn wsX10_init (wsX2_init) := ggX10_init_X2_init
set_option maxRecDepth 20000 in
theorem ggX10_init_X7_init : GoodIn wsX10_init wsX7_init := goodIn_r _ [89, 90, 2, 3, 57, 91, 92, 93, 94, 95, 14, 96, 97, 98, 99, 100, 101, 102, 103, 227, 228, 229, 230] (by decide +kernel) (by decide +kernel)
set_option maxRecDepth 20000 in
theorem gX10_init_X7_init : GoodIn wsX10_init (wsX7_init) := ggX10_init_X7_init
set_option maxRecDepth 20000 in
theorem ggX10_init_X5_init : GoodIn wsX10_init wsX5_init := goodIn_r _ [106, 107, 2, 3, 57, 108, 109, 110, 111, 112, 113, 114, 231, 232, 233] (by decide +kernel) (by decide +kernel)
set_option maxRecDepth 20000 in
theorem gX10_init_X5_init : GoodIn wsX10_init (wsX5_init) := ggX10_init_X5_init
set_option maxRecDepth 20000 in
theorem ggX10_init_X0_init : GoodIn wsX10_init wsX0_init := goodIn_r _ [117, 118, 2, 3, 57, 119, 120, 121, 122, 123, 234, 235, 236, 237, 238] (by decide +kernel) (by decide +kernel)
set_option maxRecDepth 20000 in
theorem gX10_init_X0_init : GoodIn wsX10_init (wsX0_init) := ggX10_init_X0_init
set_option maxRecDepth 20000 in
theorem ggX10_init_X9_init : GoodIn wsX10_init wsX9_init := goodIn_r _ [126, 127, 2, 3, 57, 128, 129, 130, 131, 132, 239, 240, 241, 242, 243] (by decide +kernel) (by decide +kernel)
set_option maxRecDepth 20000 in
theorem gX10_init_X9_init : GoodIn wsX10_init (wsX9_init) := ggX10_init_X9_init
set_option maxRecDepth 20000 in
theorem ggX10_init_X4_init : GoodIn wsX10_init wsX4_init := goodIn_r _ [135, 136, 2, 3, 57, 137, 138, 139, 140, 141, 142, 244, 245, 246, 247, 248, 249] (by decide +kernel) (by decide +kernel)
set_option maxRecDepth 20000 in
theorem gX10_init_X4_init : GoodIn wsX10_init (wsX4_init) := ggX10_init_X4_init
set_option maxRecDepth 20000 in
theorem ggX10_init_X3_startPlain : GoodIn wsX10_init wsX3_startPlain := goodIn_r _ [146, 147, 148, 149, 150, 14, 151, 152, 153, 154, 155, 156, 66, 67, 68, 157, 112, 113, 114, 158, 159, 160, 161, 65, 162, 163, 164, 165, 166, 167, 168, 169, 69, 70, 71, 170, 171, 172, 173, 174, 175, 176, 177, 178, 179, 180, 181, 64, 182, 95, 96, 97, 98, 99, 100, 101, 102, 103, 183, 184, 185, 186, 187, 188, 189, 208, 209, 210, 211, 212, 213, 214, 215, 216, 217, 218, 219, 220] (by decide +kernel) (by decide +kernel)
set_option maxRecDepth 20000 in
theorem gX10_init_X3_startPlain : GoodIn wsX10_init (wsV RX10 100 RX3 yX3_startPlain wsX3_startPlain) := goodIn_app (goodIn_of _ (by decide +kernel)) ggX10_init_X3_startPlain
theorem dX10_init_0 : decode cX10_init 0 = .ok (.aload_n 0, 1) := by decide +kernel
theorem dX10_init_1 : decode cX10_init 1 = .ok (.invokespecial 1, 3) := by decide +kernel
theorem dX10_init_4 : decode cX10_init 4 = .ok (.aload_n 0, 1) := by decide +kernel
theorem dX10_init_5 : decode cX10_init 5 = .ok (.new 7, 3) := by decide +kernel
theorem dX10_init_8 : decode cX10_init 8 = .ok (.dup, 1) := by decide +kernel
theorem dX10_init_9 : decode cX10_init 9 = .ok (.invokespecial 9, 3) := by decide +kernel
theorem dX10_init_12 : decode cX10_init 12 = .ok (.putfield 10, 3) := by decide +kernel
theorem dX10_init_15 : decode cX10_init 15 = .ok (.aload_n 0, 1) := by decide +kernel
theorem dX10_init_16 : decode cX10_init 16 = .ok (.new 16, 3) := by decide +kernel
theorem dX10_init_19 : decode cX10_init 19 = .ok (.dup, 1) := by decide +kernel
theorem dX10_init_20 : decode cX10_init 20 = .ok (.aload_n 0, 1) := by decide +kernel
theorem dX10_init_21 : decode cX10_init 21 = .ok (.getfield 10, 3) := by decide +kernel
theorem dX10_init_24 : decode cX10_init 24 = .ok (.invokespecial 18, 3) := by decide +kernel
theorem dX10_init_27 : decode cX10_init 27 = .ok (.putfield 21, 3) := by decide +kernel
theorem dX10_init_30 : decode cX10_init 30 = .ok (.aload_n 0, 1) := by decide +kernel
theorem dX10_init_31 : decode cX10_init 31 = .ok (.new 25, 3) := by decide +kernel
theorem dX10_init_34 : decode cX10_init 34 = .ok (.dup, 1) := by decide +kernel
theorem dX10_init_35 : decode cX10_init 35 = .ok (.invokespecial 27, 3) := by decide +kernel
theorem dX10_init_38 : decode cX10_init 38 = .ok (.putfield 28, 3) := by decide +kernel
theorem dX10_init_41 : decode cX10_init 41 = .ok (.aload_n 0, 1) := by decide +kernel
theorem dX10_init_42 : decode cX10_init 42 = .ok (.new 25, 3) := by decide +kernel
theorem dX10_init_45 : decode cX10_init 45 = .ok (.dup, 1) := by decide +kernel
theorem dX10_init_46 : decode cX10_init 46 = .ok (.invokespecial 27, 3) := by decide +kernel
theorem dX10_init_49 : decode cX10_init 49 = .ok (.putfield 32, 3) := by decide +kernel
theorem dX10_init_52 : decode cX10_init 52 = .ok (.aload_n 0, 1) := by decide +kernel
theorem dX10_init_53 : decode cX10_init 53 = .ok (.new 35, 3) := by decide +kernel
theorem dX10_init_56 : decode cX10_init 56 = .ok (.dup, 1) := by decide +kernel
theorem dX10_init_57 : decode cX10_init 57 = .ok (.aload_n 0, 1) := by decide +kernel
theorem dX10_init_58 : decode cX10_init 58 = .ok (.getfield 32, 3) := by decide +kernel
theorem dX10_init_61 : decode cX10_init 61 = .ok (.invokespecial 37, 3) := by decide +kernel
theorem dX10_init_64 : decode cX10_init 64 = .ok (.putfield 40, 3) := by decide +kernel
theorem dX10_init_67 : decode cX10_init 67 = .ok (.aload_n 0, 1) := by decide +kernel
theorem dX10_init_68 : decode cX10_init 68 = .ok (.new 44, 3) := by decide +kernel
theorem dX10_init_71 : decode cX10_init 71 = .ok (.dup, 1) := by decide +kernel
theorem dX10_init_72 : decode cX10_init 72 = .ok (.aload_n 0, 1) := by decide +kernel
theorem dX10_init_73 : decode cX10_init 73 = .ok (.getfield 32, 3) := by decide +kernel
theorem dX10_init_76 : decode cX10_init 76 = .ok (.aload_n 0, 1) := by decide +kernel
theorem dX10_init_77 : decode cX10_init 77 = .ok (.getfield 40, 3) := by decide +kernel
theorem dX10_init_80 : decode cX10_init 80 = .ok (.invokespecial 46, 3) := by decide +kernel
theorem dX10_init_83 : decode cX10_init 83 = .ok (.putfield 49, 3) := by decide +kernel
theorem dX10_init_86 : decode cX10_init 86 = .ok (.aload_n 0, 1) := by decide +kernel
theorem dX10_init_87 : decode cX10_init 87 = .ok (.new 53, 3) := by decide +kernel
theorem dX10_init_90 : decode cX10_init 90 = .ok (.dup, 1) := by decide +kernel
theorem dX10_init_91 : decode cX10_init 91 = .ok (.aload_n 0, 1) := by decide +kernel
theorem dX10_init_92 : decode cX10_init 92 = .ok (.getfield 32, 3) := by decide +kernel
theorem dX10_init_95 : decode cX10_init 95 = .ok (.invokespecial 55, 3) := by decide +kernel
theorem dX10_init_98 : decode cX10_init 98 = .ok (.putfield 56, 3) := by decide +kernel
theorem dX10_init_101 : decode cX10_init 101 = .ok (.aload_n 0, 1) := by decide +kernel
theorem dX10_init_102 : decode cX10_init 102 = .ok (.new 60, 3) := by decide +kernel
theorem dX10_init_105 : decode cX10_init 105 = .ok (.dup, 1) := by decide +kernel
theorem dX10_init_106 : decode cX10_init 106 = .ok (.invokespecial 62, 3) := by decide +kernel
theorem dX10_init_109 : decode cX10_init 109 = .ok (.putfield 63, 3) := by decide +kernel
theorem dX10_init_112 : decode cX10_init 112 = .ok (.aload_n 0, 1) := by decide +kernel
theorem dX10_init_113 : decode cX10_init 113 = .ok (.new 67, 3) := by decide +kernel
theorem dX10_init_116 : decode cX10_init 116 = .ok (.dup, 1) := by decide +kernel
theorem dX10_init_117 : decode cX10_init 117 = .ok (.aload_n 0, 1) := by decide +kernel
theorem dX10_init_118 : decode cX10_init 118 = .ok (.getfield 32, 3) := by decide +kernel
theorem dX10_init_121 : decode cX10_init 121 = .ok (.aload_n 0, 1) := by decide +kernel
theorem dX10_init_122 : decode cX10_init 122 = .ok (.getfield 63, 3) := by decide +kernel
theorem dX10_init_125 : decode cX10_init 125 = .ok (.invokespecial 69, 3) := by decide +kernel
theorem dX10_init_128 : decode cX10_init 128 = .ok (.putfield 72, 3) := by decide +kernel
theorem dX10_init_131 : decode cX10_init 131 = .ok (.aload_n 0, 1) := by decide +kernel
theorem dX10_init_132 : decode cX10_init 132 = .ok (.new 76, 3) := by decide +kernel
theorem dX10_init_135 : decode cX10_init 135 = .ok (.dup, 1) := by decide +kernel
theorem dX10_init_136 : decode cX10_init 136 = .ok (.aload_n 0, 1) := by decide +kernel
theorem dX10_init_137 : decode cX10_init 137 = .ok (.getfield 63, 3) := by decide +kernel
theorem dX10_init_140 : decode cX10_init 140 = .ok (.invokespecial 78, 3) := by decide +kernel
theorem dX10_init_143 : decode cX10_init 143 = .ok (.putfield 81, 3) := by decide +kernel
theorem dX10_init_146 : decode cX10_init 146 = .ok (.aload_n 0, 1) := by decide +kernel
theorem dX10_init_147 : decode cX10_init 147 = .ok (.new 85, 3) := by decide +kernel
theorem dX10_init_150 : decode cX10_init 150 = .ok (.dup, 1) := by decide +kernel
theorem dX10_init_151 : decode cX10_init 151 = .ok (.aload_n 0, 1) := by decide +kernel
theorem dX10_init_152 : decode cX10_init 152 = .ok (.getfield 63, 3) := by decide +kernel
theorem dX10_init_155 : decode cX10_init 155 = .ok (.invokespecial 87, 3) := by decide +kernel
theorem dX10_init_158 : decode cX10_init 158 = .ok (.putfield 88, 3) := by decide +kernel
theorem dX10_init_161 : decode cX10_init 161 = .ok (.aload_n 0, 1) := by decide +kernel
theorem dX10_init_162 : decode cX10_init 162 = .ok (.iconst 2, 1) := by decide +kernel
theorem dX10_init_163 : decode cX10_init 163 = .ok (.anewarray 60, 3) := by decide +kernel
theorem dX10_init_166 : decode cX10_init 166 = .ok (.dup, 1) := by decide +kernel
theorem dX10_init_167 : decode cX10_init 167 = .ok (.iconst 0, 1) := by decide +kernel
theorem dX10_init_168 : decode cX10_init 168 = .ok (.new 60, 3) := by decide +kernel
theorem dX10_init_171 : decode cX10_init 171 = .ok (.dup, 1) := by decide +kernel
theorem dX10_init_172 : decode cX10_init 172 = .ok (.invokespecial 62, 3) := by decide +kernel
theorem dX10_init_175 : decode cX10_init 175 = .ok (.aastore, 1) := by decide +kernel
theorem dX10_init_176 : decode cX10_init 176 = .ok (.dup, 1) := by decide +kernel
theorem dX10_init_177 : decode cX10_init 177 = .ok (.iconst 1, 1) := by decide +kernel
theorem dX10_init_178 : decode cX10_init 178 = .ok (.new 60, 3) := by decide +kernel
theorem dX10_init_181 : decode cX10_init 181 = .ok (.dup, 1) := by decide +kernel
theorem dX10_init_182 : decode cX10_init 182 = .ok (.invokespecial 62, 3) := by decide +kernel
theorem dX10_init_185 : decode cX10_init 185 = .ok (.aastore, 1) := by decide +kernel
theorem dX10_init_186 : decode cX10_init 186 = .ok (.putfield 92, 3) := by decide +kernel
theorem dX10_init_189 : decode cX10_init 189 = .ok (.aload_n 0, 1) := by decide +kernel
theorem dX10_init_190 : decode cX10_init 190 = .ok (.iconst 0, 1) := by decide +kernel
theorem dX10_init_191 : decode cX10_init 191 = .ok (.putfield 96, 3) := by decide +kernel
theorem dX10_init_194 : decode cX10_init 194 = .ok (.aload_n 0, 1) := by decide +kernel
theorem dX10_init_195 : decode cX10_init 195 = .ok (.getfield 32, 3) := by decide +kernel
theorem dX10_init_198 : decode cX10_init 198 = .ok (.invokevirtual 100, 3) := by decide +kernel
theorem dX10_init_201 : decode cX10_init 201 = .ok (.return_, 1) := by decide +kernel
set_option maxRecDepth 20000 in
theorem ggX10_write_X10_within : GoodIn wsX10_write wsX10_within := goodIn_r _ [5] (by decide +kernel) (by decide +kernel)
set_option maxRecDepth 20000 in
theorem gX10_write_X10_within : GoodIn wsX10_write (va_wsS RX10 103 yX10_within wsX10_within) := goodIn_app (goodIn_of _ (by decide +kernel)) ggX10_write_X10_within
set_option maxRecDepth 20000 in
theorem ggX10_write_X8_append : GoodIn wsX10_write wsX8_append := goodIn_r _ [10, 11, 12, 26, 27] (by decide +kernel) (by decide +kernel)
set_option maxRecDepth 20000 in
theorem gX10_write_X8_append : GoodIn wsX10_write (wsV RX10 107 RX8 yX8_append wsX8_append) := goodIn_app (goodIn_of _ (by decide +kernel)) ggX10_write_X8_append
theorem dX10_write_0 : decode cX10_write 0 = .ok (.iload_n 1, 1) := by decide +kernel
theorem dX10_write_1 : decode cX10_write 1 = .ok (.iconst 1, 1) := by decide +kernel
theorem dX10_write_2 : decode cX10_write 2 = .ok (.bipush 8, 2) := by decide +kernel
theorem dX10_write_4 : decode cX10_write 4 = .ok (.invokestatic 103, 3) := by decide +kernel
theorem dX10_write_7 : decode cX10_write 7 = .ok (.ifCond .ne 5, 3) := by decide +kernel
theorem dX10_write_10 : decode cX10_write 10 = .ok (.iconst (-1), 1) := by decide +kernel
theorem dX10_write_11 : decode cX10_write 11 = .ok (.ireturn, 1) := by decide +kernel
theorem dX10_write_12 : decode cX10_write 12 = .ok (.aload_n 0, 1) := by decide +kernel
theorem dX10_write_13 : decode cX10_write 13 = .ok (.getfield 10, 3) := by decide +kernel
theorem dX10_write_16 : decode cX10_write 16 = .ok (.iload_n 1, 1) := by decide +kernel
theorem dX10_write_17 : decode cX10_write 17 = .ok (.lload_n 2, 1) := by decide +kernel
theorem dX10_write_18 : decode cX10_write 18 = .ok (.invokevirtual 107, 3) := by decide +kernel
theorem dX10_write_21 : decode cX10_write 21 = .ok (.ifCond .eq 13, 3) := by decide +kernel
theorem dX10_write_24 : decode cX10_write 24 = .ok (.aload_n 0, 1) := by decide +kernel
theorem dX10_write_25 : decode cX10_write 25 = .ok (.getfield 10, 3) := by decide +kernel
theorem dX10_write_28 : decode cX10_write 28 = .ok (.getfield 111, 3) := by decide +kernel
theorem dX10_write_31 : decode cX10_write 31 = .ok (.goto 5, 3) := by decide +kernel
theorem dX10_write_34 : decode cX10_write 34 = .ok (.bipush (-3), 2) := by decide +kernel
theorem dX10_write_36 : decode cX10_write 36 = .ok (.ireturn, 1) := by decide +kernel
set_option maxRecDepth 20000 in
theorem ggX10_wipe_X8_empty : GoodIn wsX10_wipe wsX8_empty := goodIn_r _ [6, 7, 21, 22] (by decide +kernel) (by decide +kernel)
set_option maxRecDepth 20000 in
theorem gX10_wipe_X8_empty : GoodIn wsX10_wipe (wsV RX10 114 RX8 yX8_empty wsX8_empty) := goodIn_app (goodIn_of _ (by decide +kernel)) ggX10_wipe_X8_empty
theorem dX10_wipe_0 : decode cX10_wipe 0 = .ok (.aload_n 0, 1) := by decide +kernel
theorem dX10_wipe_1 : decode cX10_wipe 1 = .ok (.getfield 10, 3) := by decide +kernel
theorem dX10_wipe_4 : decode cX10_wipe 4 = .ok (.invokevirtual 114, 3) := by decide +kernel
theorem dX10_wipe_7 : decode cX10_wipe 7 = .ok (.ireturn, 1) := by decide +kernel
set_option maxRecDepth 20000 in
theorem ggX10_fault_X6_readInto : GoodIn wsX10_fault wsX6_readInto := goodIn_r _ [7, 8, 9, 10, 11, 12, 13, 14, 15, 16, 17, 18, 19, 20, 21, 22, 23, 24, 25, 26, 27, 28, 29, 30, 6, 31, 32, 33, 34, 35, 36, 37, 38, 39, 40, 41, 42, 43, 44, 45, 46, 47, 48, 49, 50, 51, 52, 53, 54, 55, 56, 57, 58, 59, 60, 61, 62, 63, 64, 65, 66, 67, 68, 69, 70, 71, 72, 73, 74, 75, 76, 77, 78, 79, 80, 81, 82, 83, 84, 85, 86, 87, 88, 89, 90, 91, 92, 93, 94, 95, 96, 97, 98, 99, 100, 101, 102, 103, 104, 105, 106, 107, 108, 109, 110, 111, 112, 113, 114, 115, 116, 117, 118, 119, 120, 121, 122, 123, 124, 125, 126, 127, 128, 129, 130, 131, 132, 133, 134, 135, 136, 137, 138, 139, 140, 141, 142, 143, 144, 145, 146, 147, 148, 149, 150, 151, 152, 153, 154, 155, 156, 157, 158, 159, 173, 174, 175, 176, 177, 178, 179, 180, 181, 182, 183, 184, 185, 186, 187, 188, 189, 190] (by decide +kernel) (by decide +kernel)
set_option maxRecDepth 20000 in
theorem gX10_fault_X6_readInto : GoodIn wsX10_fault (wsV RX10 118 RX6 yX6_readInto wsX6_readInto) := goodIn_app (goodIn_of _ (by decide +kernel)) ggX10_fault_X6_readInto
theorem dX10_fault_0 : decode cX10_fault 0 = .ok (.aload_n 0, 1) := by decide +kernel
theorem dX10_fault_1 : decode cX10_fault 1 = .ok (.getfield 21, 3) := by decide +kernel
theorem dX10_fault_4 : decode cX10_fault 4 = .ok (.aload_n 0, 1) := by decide +kernel
theorem dX10_fault_5 : decode cX10_fault 5 = .ok (.getfield 28, 3) := by decide +kernel
theorem dX10_fault_8 : decode cX10_fault 8 = .ok (.invokevirtual 118, 3) := by decide +kernel
theorem dX10_fault_11 : decode cX10_fault 11 = .ok (.ireturn, 1) := by decide +kernel
set_option maxRecDepth 20000 in
theorem ggX10_lay_X6_readInto : GoodIn wsX10_lay wsX6_readInto := goodIn_r _ [10, 11, 12, 13, 14, 15, 16, 17, 18, 19, 20, 21, 22, 23, 24, 25, 26, 27, 28, 29, 30, 31, 32, 33, 9, 34, 35, 36, 37, 38, 39, 40, 41, 42, 43, 44, 45, 46, 47, 48, 49, 50, 51, 52, 53, 54, 55, 56, 57, 58, 59, 60, 61, 62, 63, 64, 65, 66, 67, 68, 69, 70, 71, 72, 73, 74, 75, 76, 77, 78, 79, 80, 81, 82, 83, 84, 85, 86, 87, 88, 89, 90, 91, 92, 93, 94, 95, 96, 97, 98, 99, 100, 101, 102, 103, 104, 105, 106, 107, 108, 109, 110, 111, 112, 113, 114, 115, 116, 117, 118, 119, 120, 121, 122, 123, 124, 125, 126, 127, 128, 129, 130, 131, 132, 133, 134, 135, 136, 137, 138, 139, 140, 141, 142, 143, 144, 145, 146, 147, 148, 149, 150, 151, 152, 153, 154, 155, 156, 157, 158, 159, 160, 161, 162, 229, 230, 231, 232, 233, 216, 217, 218, 219, 220, 221, 222, 223, 224, 225, 226, 227, 228] (by decide +kernel) (by decide +kernel)
set_option maxRecDepth 20000 in
theorem gX10_lay_X6_readInto : GoodIn wsX10_lay (wsV RX10 118 RX6 yX6_readInto wsX6_readInto) := goodIn_app (goodIn_of _ (by decide +kernel)) ggX10_lay_X6_readInto
set_option maxRecDepth 20000 in
theorem ggX10_lay_X3_addUp : GoodIn wsX10_lay wsX3_addUp := goodIn_r _ [166, 167, 23, 168, 24, 22, 169, 27, 28, 29, 30, 170, 171, 172, 17, 173, 162, 174, 175, 176, 177, 20, 21, 178, 179, 180, 181, 149, 182, 183, 184, 185, 186, 75, 187, 188, 78, 79, 189, 190, 191, 192, 193, 194, 195, 216, 217, 218, 219, 220, 221, 222, 223, 224, 225, 226, 227, 228] (by decide +kernel) (by decide +kernel)
set_option maxRecDepth 20000 in
theorem gX10_lay_X3_addUp : GoodIn wsX10_lay (wsV RX10 125 RX3 yX3_addUp wsX3_addUp) := goodIn_app (goodIn_of _ (by decide +kernel)) ggX10_lay_X3_addUp
set_option maxRecDepth 20000 in
theorem ggX10_lay_X5_stopDelays : GoodIn wsX10_lay wsX5_stopDelays := goodIn_r _ [200, 201, 202, 28, 29, 30, 234, 235, 236] (by decide +kernel) (by decide +kernel)
set_option maxRecDepth 20000 in
theorem gX10_lay_X5_stopDelays : GoodIn wsX10_lay (wsV RX10 128 RX5 yX5_stopDelays wsX5_stopDelays) := goodIn_app (goodIn_of _ (by decide +kernel)) ggX10_lay_X5_stopDelays
theorem dX10_lay_0 : decode cX10_lay 0 = .ok (.aload_n 0, 1) := by decide +kernel
theorem dX10_lay_1 : decode cX10_lay 1 = .ok (.getfield 21, 3) := by decide +kernel
theorem dX10_lay_4 : decode cX10_lay 4 = .ok (.aload_n 0, 1) := by decide +kernel
theorem dX10_lay_5 : decode cX10_lay 5 = .ok (.getfield 28, 3) := by decide +kernel
theorem dX10_lay_8 : decode cX10_lay 8 = .ok (.invokevirtual 118, 3) := by decide +kernel
theorem dX10_lay_11 : decode cX10_lay 11 = .ok (.bipush (-4), 2) := by decide +kernel
theorem dX10_lay_13 : decode cX10_lay 13 = .ok (.if_icmp .ne 14, 3) := by decide +kernel
theorem dX10_lay_16 : decode cX10_lay 16 = .ok (.aload_n 0, 1) := by decide +kernel
theorem dX10_lay_17 : decode cX10_lay 17 = .ok (.getfield 28, 3) := by decide +kernel
theorem dX10_lay_20 : decode cX10_lay 20 = .ok (.getfield 122, 3) := by decide +kernel
theorem dX10_lay_23 : decode cX10_lay 23 = .ok (.iconst 3, 1) := by decide +kernel
theorem dX10_lay_24 : decode cX10_lay 24 = .ok (.if_icmp .ge 6, 3) := by decide +kernel
theorem dX10_lay_27 : decode cX10_lay 27 = .ok (.bipush (-2), 2) := by decide +kernel
theorem dX10_lay_29 : decode cX10_lay 29 = .ok (.ireturn, 1) := by decide +kernel
theorem dX10_lay_30 : decode cX10_lay 30 = .ok (.aload_n 0, 1) := by decide +kernel
theorem dX10_lay_31 : decode cX10_lay 31 = .ok (.getfield 21, 3) := by decide +kernel
theorem dX10_lay_34 : decode cX10_lay 34 = .ok (.aload_n 0, 1) := by decide +kernel
theorem dX10_lay_35 : decode cX10_lay 35 = .ok (.getfield 32, 3) := by decide +kernel
theorem dX10_lay_38 : decode cX10_lay 38 = .ok (.invokevirtual 118, 3) := by decide +kernel
theorem dX10_lay_41 : decode cX10_lay 41 = .ok (.pop, 1) := by decide +kernel
theorem dX10_lay_42 : decode cX10_lay 42 = .ok (.aload_n 0, 1) := by decide +kernel
theorem dX10_lay_43 : decode cX10_lay 43 = .ok (.getfield 32, 3) := by decide +kernel
theorem dX10_lay_46 : decode cX10_lay 46 = .ok (.invokevirtual 125, 3) := by decide +kernel
theorem dX10_lay_49 : decode cX10_lay 49 = .ok (.aload_n 0, 1) := by decide +kernel
theorem dX10_lay_50 : decode cX10_lay 50 = .ok (.getfield 63, 3) := by decide +kernel
theorem dX10_lay_53 : decode cX10_lay 53 = .ok (.invokevirtual 128, 3) := by decide +kernel
theorem dX10_lay_56 : decode cX10_lay 56 = .ok (.aload_n 0, 1) := by decide +kernel
theorem dX10_lay_57 : decode cX10_lay 57 = .ok (.iconst 0, 1) := by decide +kernel
theorem dX10_lay_58 : decode cX10_lay 58 = .ok (.putfield 96, 3) := by decide +kernel
theorem dX10_lay_61 : decode cX10_lay 61 = .ok (.aload_n 0, 1) := by decide +kernel
theorem dX10_lay_62 : decode cX10_lay 62 = .ok (.getfield 32, 3) := by decide +kernel
theorem dX10_lay_65 : decode cX10_lay 65 = .ok (.getfield 122, 3) := by decide +kernel
theorem dX10_lay_68 : decode cX10_lay 68 = .ok (.ireturn, 1) := by decide +kernel
set_option maxRecDepth 20000 in
theorem ggX10_blow_X10_within : GoodIn wsX10_blow wsX10_within := goodIn_r _ [5] (by decide +kernel) (by decide +kernel)
set_option maxRecDepth 20000 in
theorem gX10_blow_X10_within : GoodIn wsX10_blow (va_wsS RX10 103 yX10_within wsX10_within) := goodIn_app (goodIn_of _ (by decide +kernel)) ggX10_blow_X10_within
set_option maxRecDepth 20000 in
theorem ggX10_blow_X3_blowPart : GoodIn wsX10_blow wsX3_blowPart := goodIn_r _ [10, 11, 25, 26, 27, 28, 29, 30, 31, 32, 33, 34, 35, 36, 37] (by decide +kernel) (by decide +kernel)
set_option maxRecDepth 20000 in
theorem gX10_blow_X3_blowPart : GoodIn wsX10_blow (wsV RX10 138 RX3 yX3_blowPart wsX3_blowPart) := goodIn_app (goodIn_of _ (by decide +kernel)) ggX10_blow_X3_blowPart
theorem dX10_blow_0 : decode cX10_blow 0 = .ok (.iload_n 1, 1) := by decide +kernel
theorem dX10_blow_1 : decode cX10_blow 1 = .ok (.iconst 0, 1) := by decide +kernel
theorem dX10_blow_2 : decode cX10_blow 2 = .ok (.aload_n 0, 1) := by decide +kernel
theorem dX10_blow_3 : decode cX10_blow 3 = .ok (.getfield 32, 3) := by decide +kernel
theorem dX10_blow_6 : decode cX10_blow 6 = .ok (.getfield 131, 3) := by decide +kernel
theorem dX10_blow_9 : decode cX10_blow 9 = .ok (.iconst 1, 1) := by decide +kernel
theorem dX10_blow_10 : decode cX10_blow 10 = .ok (.isub, 1) := by decide +kernel
theorem dX10_blow_11 : decode cX10_blow 11 = .ok (.invokestatic 103, 3) := by decide +kernel
theorem dX10_blow_14 : decode cX10_blow 14 = .ok (.ifCond .eq 12, 3) := by decide +kernel
theorem dX10_blow_17 : decode cX10_blow 17 = .ok (.iload_n 2, 1) := by decide +kernel
theorem dX10_blow_18 : decode cX10_blow 18 = .ok (.iconst 0, 1) := by decide +kernel
theorem dX10_blow_19 : decode cX10_blow 19 = .ok (.iconst 5, 1) := by decide +kernel
theorem dX10_blow_20 : decode cX10_blow 20 = .ok (.invokestatic 103, 3) := by decide +kernel
theorem dX10_blow_23 : decode cX10_blow 23 = .ok (.ifCond .ne 5, 3) := by decide +kernel
theorem dX10_blow_26 : decode cX10_blow 26 = .ok (.iconst (-1), 1) := by decide +kernel
theorem dX10_blow_27 : decode cX10_blow 27 = .ok (.ireturn, 1) := by decide +kernel
theorem dX10_blow_28 : decode cX10_blow 28 = .ok (.iload_n 2, 1) := by decide +kernel
theorem dX10_blow_29 : decode cX10_blow 29 = .ok (.iconst 5, 1) := by decide +kernel
theorem dX10_blow_30 : decode cX10_blow 30 = .ok (.if_icmp .ne 15, 3) := by decide +kernel
theorem dX10_blow_33 : decode cX10_blow 33 = .ok (.aload_n 0, 1) := by decide +kernel
theorem dX10_blow_34 : decode cX10_blow 34 = .ok (.getfield 32, 3) := by decide +kernel
theorem dX10_blow_37 : decode cX10_blow 37 = .ok (.getfield 134, 3) := by decide +kernel
theorem dX10_blow_40 : decode cX10_blow 40 = .ok (.iload_n 1, 1) := by decide +kernel
theorem dX10_blow_41 : decode cX10_blow 41 = .ok (.iaload, 1) := by decide +kernel
theorem dX10_blow_42 : decode cX10_blow 42 = .ok (.goto 12, 3) := by decide +kernel
theorem dX10_blow_45 : decode cX10_blow 45 = .ok (.aload_n 0, 1) := by decide +kernel
theorem dX10_blow_46 : decode cX10_blow 46 = .ok (.getfield 32, 3) := by decide +kernel
theorem dX10_blow_49 : decode cX10_blow 49 = .ok (.iload_n 1, 1) := by decide +kernel
theorem dX10_blow_50 : decode cX10_blow 50 = .ok (.iload_n 2, 1) := by decide +kernel
theorem dX10_blow_51 : decode cX10_blow 51 = .ok (.invokevirtual 138, 3) := by decide +kernel
theorem dX10_blow_54 : decode cX10_blow 54 = .ok (.ireturn, 1) := by decide +kernel
set_option maxRecDepth 20000 in
theorem ggX10_sum_X10_isScored : GoodIn wsX10_sum wsX10_isScored := goodIn_r _ [6, 1, 7, 8, 9, 5, 10, 11, 12, 13, 26, 27, 28, 29, 30, 31, 32, 33, 34, 35, 36, 37, 38, 39, 40, 41, 42, 43, 44, 45, 46, 47, 48, 49, 50, 51] (by decide +kernel) (by decide +kernel)
set_option maxRecDepth 20000 in
theorem gX10_sum_X10_isScored : GoodIn wsX10_sum (wsV RX10 142 RX10 yX10_isScored wsX10_isScored) := goodIn_app (goodIn_of _ (by decide +kernel)) ggX10_sum_X10_isScored
set_option maxRecDepth 20000 in
theorem ggX10_sum_X10_isCorner : GoodIn wsX10_sum wsX10_isCorner := goodIn_r _ [16, 11, 12, 5, 13] (by decide +kernel) (by decide +kernel)
set_option maxRecDepth 20000 in
theorem gX10_sum_X10_isCorner : GoodIn wsX10_sum (va_wsS RX10 146 yX10_isCorner wsX10_isCorner) := goodIn_app (goodIn_of _ (by decide +kernel)) ggX10_sum_X10_isCorner
set_option maxRecDepth 20000 in
theorem ggX10_sum_X3_sumOf : GoodIn wsX10_sum wsX3_sumOf := goodIn_r _ [21, 22, 23, 24, 20, 25, 39, 40, 41, 42, 43, 44, 45, 46, 47, 48, 49, 50, 51] (by decide +kernel) (by decide +kernel)
set_option maxRecDepth 20000 in
theorem gX10_sum_X3_sumOf : GoodIn wsX10_sum (wsV RX10 150 RX3 yX3_sumOf wsX3_sumOf) := goodIn_app (goodIn_of _ (by decide +kernel)) ggX10_sum_X3_sumOf
theorem dX10_sum_0 : decode cX10_sum 0 = .ok (.aload_n 0, 1) := by decide +kernel
theorem dX10_sum_1 : decode cX10_sum 1 = .ok (.iload_n 1, 1) := by decide +kernel
theorem dX10_sum_2 : decode cX10_sum 2 = .ok (.iload_n 2, 1) := by decide +kernel
theorem dX10_sum_3 : decode cX10_sum 3 = .ok (.invokevirtual 142, 3) := by decide +kernel
theorem dX10_sum_6 : decode cX10_sum 6 = .ok (.ifCond .eq 23, 3) := by decide +kernel
theorem dX10_sum_9 : decode cX10_sum 9 = .ok (.iload_n 3, 1) := by decide +kernel
theorem dX10_sum_10 : decode cX10_sum 10 = .ok (.invokestatic 146, 3) := by decide +kernel
theorem dX10_sum_13 : decode cX10_sum 13 = .ok (.ifCond .eq 16, 3) := by decide +kernel
theorem dX10_sum_16 : decode cX10_sum 16 = .ok (.aload_n 0, 1) := by decide +kernel
theorem dX10_sum_17 : decode cX10_sum 17 = .ok (.getfield 32, 3) := by decide +kernel
theorem dX10_sum_20 : decode cX10_sum 20 = .ok (.iload_n 1, 1) := by decide +kernel
theorem dX10_sum_21 : decode cX10_sum 21 = .ok (.iload_n 2, 1) := by decide +kernel
theorem dX10_sum_22 : decode cX10_sum 22 = .ok (.iload_n 3, 1) := by decide +kernel
theorem dX10_sum_23 : decode cX10_sum 23 = .ok (.invokevirtual 150, 3) := by decide +kernel
theorem dX10_sum_26 : decode cX10_sum 26 = .ok (.goto 4, 3) := by decide +kernel
theorem dX10_sum_29 : decode cX10_sum 29 = .ok (.iconst (-1), 1) := by decide +kernel
theorem dX10_sum_30 : decode cX10_sum 30 = .ok (.ireturn, 1) := by decide +kernel
set_option maxRecDepth 20000 in
theorem ggX10_lead_X10_isScored : GoodIn wsX10_lead wsX10_isScored := goodIn_r _ [7, 1, 8, 9, 10, 6, 11, 12, 13, 14, 21, 22, 23, 24, 25, 26, 27, 28, 29, 30, 31, 32, 33, 34, 35, 36, 37, 38, 39, 40, 41, 42, 43, 44, 45, 46] (by decide +kernel) (by decide +kernel)
set_option maxRecDepth 20000 in
theorem gX10_lead_X10_isScored : GoodIn wsX10_lead (wsV RX10 142 RX10 yX10_isScored wsX10_isScored) := goodIn_app (goodIn_of _ (by decide +kernel)) ggX10_lead_X10_isScored
set_option maxRecDepth 20000 in
theorem ggX10_lead_X3_leadOf : GoodIn wsX10_lead wsX3_leadOf := goodIn_r _ [19, 20, 34, 35, 36, 37, 38, 39, 40, 41, 42, 43, 44, 45, 46] (by decide +kernel) (by decide +kernel)
set_option maxRecDepth 20000 in
theorem gX10_lead_X3_leadOf : GoodIn wsX10_lead (wsV RX10 154 RX3 yX3_leadOf wsX3_leadOf) := goodIn_app (goodIn_of _ (by decide +kernel)) ggX10_lead_X3_leadOf
theorem dX10_lead_0 : decode cX10_lead 0 = .ok (.aload_n 0, 1) := by decide +kernel
theorem dX10_lead_1 : decode cX10_lead 1 = .ok (.iload_n 1, 1) := by decide +kernel
theorem dX10_lead_2 : decode cX10_lead 2 = .ok (.iload_n 2, 1) := by decide +kernel
theorem dX10_lead_3 : decode cX10_lead 3 = .ok (.invokevirtual 142, 3) := by decide +kernel
theorem dX10_lead_6 : decode cX10_lead 6 = .ok (.ifCond .eq 15, 3) := by decide +kernel
theorem dX10_lead_9 : decode cX10_lead 9 = .ok (.aload_n 0, 1) := by decide +kernel
theorem dX10_lead_10 : decode cX10_lead 10 = .ok (.getfield 32, 3) := by decide +kernel
theorem dX10_lead_13 : decode cX10_lead 13 = .ok (.iload_n 1, 1) := by decide +kernel
theorem dX10_lead_14 : decode cX10_lead 14 = .ok (.iload_n 2, 1) := by decide +kernel
theorem dX10_lead_15 : decode cX10_lead 15 = .ok (.invokevirtual 154, 3) := by decide +kernel
theorem dX10_lead_18 : decode cX10_lead 18 = .ok (.goto 5, 3) := by decide +kernel
theorem dX10_lead_21 : decode cX10_lead 21 = .ok (.ldc 157, 2) := by decide +kernel
theorem dX10_lead_23 : decode cX10_lead 23 = .ok (.ireturn, 1) := by decide +kernel
set_option maxRecDepth 20000 in
theorem ggX10_close_X10_isScored : GoodIn wsX10_close wsX10_isScored := goodIn_r _ [6, 1, 7, 8, 9, 5, 10, 11, 12, 13, 33, 34, 35, 36, 37, 38, 39, 40, 41, 42, 43, 44, 45, 46, 47, 48, 49, 50, 51, 52, 53, 54, 55, 56, 57, 58] (by decide +kernel) (by decide +kernel)
set_option maxRecDepth 20000 in
theorem gX10_close_X10_isScored : GoodIn wsX10_close (wsV RX10 142 RX10 yX10_isScored wsX10_isScored) := goodIn_app (goodIn_of _ (by decide +kernel)) ggX10_close_X10_isScored
set_option maxRecDepth 20000 in
theorem ggX10_close_X3_isClose : GoodIn wsX10_close wsX3_isClose := goodIn_r _ [18, 19, 20, 21, 22, 23, 24, 25, 17, 26, 27, 28, 29, 30, 31, 32, 46, 47, 48, 49, 50, 51, 52, 53, 54, 55, 56, 57, 58] (by decide +kernel) (by decide +kernel)
set_option maxRecDepth 20000 in
theorem gX10_close_X3_isClose : GoodIn wsX10_close (wsV RX10 158 RX3 yX3_isClose wsX3_isClose) := goodIn_app (goodIn_of _ (by decide +kernel)) ggX10_close_X3_isClose
theorem dX10_close_0 : decode cX10_close 0 = .ok (.aload_n 0, 1) := by decide +kernel
theorem dX10_close_1 : decode cX10_close 1 = .ok (.iload_n 1, 1) := by decide +kernel
theorem dX10_close_2 : decode cX10_close 2 = .ok (.iload_n 2, 1) := by decide +kernel
theorem dX10_close_3 : decode cX10_close 3 = .ok (.invokevirtual 142, 3) := by decide +kernel
theorem dX10_close_6 : decode cX10_close 6 = .ok (.ifCond .ne 5, 3) := by decide +kernel
theorem dX10_close_9 : decode cX10_close 9 = .ok (.iconst (-1), 1) := by decide +kernel
theorem dX10_close_10 : decode cX10_close 10 = .ok (.ireturn, 1) := by decide +kernel
theorem dX10_close_11 : decode cX10_close 11 = .ok (.aload_n 0, 1) := by decide +kernel
theorem dX10_close_12 : decode cX10_close 12 = .ok (.getfield 32, 3) := by decide +kernel
theorem dX10_close_15 : decode cX10_close 15 = .ok (.iload_n 1, 1) := by decide +kernel
theorem dX10_close_16 : decode cX10_close 16 = .ok (.iload_n 2, 1) := by decide +kernel
theorem dX10_close_17 : decode cX10_close 17 = .ok (.invokevirtual 158, 3) := by decide +kernel
theorem dX10_close_20 : decode cX10_close 20 = .ok (.ifCond .eq 7, 3) := by decide +kernel
theorem dX10_close_23 : decode cX10_close 23 = .ok (.iconst 1, 1) := by decide +kernel
theorem dX10_close_24 : decode cX10_close 24 = .ok (.goto 4, 3) := by decide +kernel
theorem dX10_close_27 : decode cX10_close 27 = .ok (.iconst 0, 1) := by decide +kernel
theorem dX10_close_28 : decode cX10_close 28 = .ok (.ireturn, 1) := by decide +kernel
set_option maxRecDepth 20000 in
theorem ggX10_margin_X10_isRule : GoodIn wsX10_margin wsX10_isRule := goodIn_r _ [6, 7, 8, 5, 9] (by decide +kernel) (by decide +kernel)
set_option maxRecDepth 20000 in
theorem gX10_margin_X10_isRule : GoodIn wsX10_margin (va_wsS RX10 161 yX10_isRule wsX10_isRule) := goodIn_app (goodIn_of _ (by decide +kernel)) ggX10_margin_X10_isRule
set_option maxRecDepth 20000 in
theorem ggX10_margin_X10_isScored : GoodIn wsX10_margin wsX10_isScored := goodIn_r _ [13, 14, 15, 16, 17, 5, 18, 7, 8, 9, 64, 65, 66, 67, 68, 69, 70, 71, 72, 73, 74, 75, 76, 77, 78, 79, 80, 81, 82, 83, 84, 85, 86, 87, 88, 89] (by decide +kernel) (by decide +kernel)
set_option maxRecDepth 20000 in
theorem gX10_margin_X10_isScored : GoodIn wsX10_margin (wsV RX10 142 RX10 yX10_isScored wsX10_isScored) := goodIn_app (goodIn_of _ (by decide +kernel)) ggX10_margin_X10_isScored
set_option maxRecDepth 20000 in
theorem ggX10_margin_X1_marginBy : GoodIn wsX10_margin wsX1_marginBy := goodIn_r _ [23, 24, 25, 26, 27, 28, 29, 30, 31, 5, 32, 33, 34, 35, 36, 37, 38, 39, 40, 41, 42, 43, 44, 45, 46, 47, 48, 49, 50, 51, 52, 53, 54, 55, 56, 57, 58, 59, 60, 61, 62, 22, 63, 90, 91, 77, 78, 79, 80, 81, 82, 83, 84, 85, 86, 87, 88, 89] (by decide +kernel) (by decide +kernel)
set_option maxRecDepth 20000 in
theorem gX10_margin_X1_marginBy : GoodIn wsX10_margin (wsV RX10 164 RX1 yX1_marginBy wsX1_marginBy) := goodIn_app (goodIn_of _ (by decide +kernel)) ggX10_margin_X1_marginBy
theorem dX10_margin_0 : decode cX10_margin 0 = .ok (.iload_n 1, 1) := by decide +kernel
theorem dX10_margin_1 : decode cX10_margin 1 = .ok (.invokestatic 161, 3) := by decide +kernel
theorem dX10_margin_4 : decode cX10_margin 4 = .ok (.ifCond .eq 25, 3) := by decide +kernel
theorem dX10_margin_7 : decode cX10_margin 7 = .ok (.aload_n 0, 1) := by decide +kernel
theorem dX10_margin_8 : decode cX10_margin 8 = .ok (.iload_n 2, 1) := by decide +kernel
theorem dX10_margin_9 : decode cX10_margin 9 = .ok (.iload_n 3, 1) := by decide +kernel
theorem dX10_margin_10 : decode cX10_margin 10 = .ok (.invokevirtual 142, 3) := by decide +kernel
theorem dX10_margin_13 : decode cX10_margin 13 = .ok (.ifCond .eq 16, 3) := by decide +kernel
theorem dX10_margin_16 : decode cX10_margin 16 = .ok (.aload_n 0, 1) := by decide +kernel
theorem dX10_margin_17 : decode cX10_margin 17 = .ok (.getfield 40, 3) := by decide +kernel
theorem dX10_margin_20 : decode cX10_margin 20 = .ok (.iload_n 1, 1) := by decide +kernel
theorem dX10_margin_21 : decode cX10_margin 21 = .ok (.iload_n 2, 1) := by decide +kernel
theorem dX10_margin_22 : decode cX10_margin 22 = .ok (.iload_n 3, 1) := by decide +kernel
theorem dX10_margin_23 : decode cX10_margin 23 = .ok (.invokevirtual 164, 3) := by decide +kernel
theorem dX10_margin_26 : decode cX10_margin 26 = .ok (.goto 5, 3) := by decide +kernel
theorem dX10_margin_29 : decode cX10_margin 29 = .ok (.ldc 157, 2) := by decide +kernel
theorem dX10_margin_31 : decode cX10_margin 31 = .ok (.ireturn, 1) := by decide +kernel
set_option maxRecDepth 20000 in
theorem ggX10_card_X10_isRule : GoodIn wsX10_card wsX10_isRule := goodIn_r _ [6, 7, 8, 5, 9] (by decide +kernel) (by decide +kernel)
set_option maxRecDepth 20000 in
theorem gX10_card_X10_isRule : GoodIn wsX10_card (va_wsS RX10 161 yX10_isRule wsX10_isRule) := goodIn_app (goodIn_of _ (by decide +kernel)) ggX10_card_X10_isRule
set_option maxRecDepth 20000 in
theorem ggX10_card_X10_isJudge : GoodIn wsX10_card wsX10_isJudge := goodIn_r _ [13, 14, 7, 8, 5, 9, 70, 71, 72, 73, 74, 75, 76, 77, 78, 79, 80, 81, 82, 83, 84, 85, 86, 87, 88, 89, 90, 91, 92, 93, 94, 95] (by decide +kernel) (by decide +kernel)
set_option maxRecDepth 20000 in
theorem gX10_card_X10_isJudge : GoodIn wsX10_card (wsV RX10 167 RX10 yX10_isJudge wsX10_isJudge) := goodIn_app (goodIn_of _ (by decide +kernel)) ggX10_card_X10_isJudge
set_option maxRecDepth 20000 in
theorem ggX10_card_X1_cardBy : GoodIn wsX10_card wsX1_cardBy := goodIn_r _ [19, 20, 21, 22, 23, 24, 25, 26, 27, 28, 29, 30, 18, 31, 32, 33, 34, 35, 36, 37, 5, 38, 39, 40, 41, 42, 43, 44, 45, 46, 47, 48, 49, 50, 51, 52, 53, 54, 55, 56, 57, 58, 59, 60, 61, 62, 63, 64, 65, 66, 67, 68, 69, 96, 97, 83, 84, 85, 86, 87, 88, 89, 90, 91, 92, 93, 94, 95] (by decide +kernel) (by decide +kernel)
set_option maxRecDepth 20000 in
theorem gX10_card_X1_cardBy : GoodIn wsX10_card (wsV RX10 170 RX1 yX1_cardBy wsX1_cardBy) := goodIn_app (goodIn_of _ (by decide +kernel)) ggX10_card_X1_cardBy
theorem dX10_card_0 : decode cX10_card 0 = .ok (.iload_n 1, 1) := by decide +kernel
theorem dX10_card_1 : decode cX10_card 1 = .ok (.invokestatic 161, 3) := by decide +kernel
theorem dX10_card_4 : decode cX10_card 4 = .ok (.ifCond .eq 23, 3) := by decide +kernel
theorem dX10_card_7 : decode cX10_card 7 = .ok (.aload_n 0, 1) := by decide +kernel
theorem dX10_card_8 : decode cX10_card 8 = .ok (.iload_n 2, 1) := by decide +kernel
theorem dX10_card_9 : decode cX10_card 9 = .ok (.invokevirtual 167, 3) := by decide +kernel
theorem dX10_card_12 : decode cX10_card 12 = .ok (.ifCond .eq 15, 3) := by decide +kernel
theorem dX10_card_15 : decode cX10_card 15 = .ok (.aload_n 0, 1) := by decide +kernel
theorem dX10_card_16 : decode cX10_card 16 = .ok (.getfield 40, 3) := by decide +kernel
theorem dX10_card_19 : decode cX10_card 19 = .ok (.iload_n 1, 1) := by decide +kernel
theorem dX10_card_20 : decode cX10_card 20 = .ok (.iload_n 2, 1) := by decide +kernel
theorem dX10_card_21 : decode cX10_card 21 = .ok (.invokevirtual 170, 3) := by decide +kernel
theorem dX10_card_24 : decode cX10_card 24 = .ok (.goto 5, 3) := by decide +kernel
theorem dX10_card_27 : decode cX10_card 27 = .ok (.ldc 157, 2) := by decide +kernel
theorem dX10_card_29 : decode cX10_card 29 = .ok (.ireturn, 1) := by decide +kernel
set_option maxRecDepth 20000 in
theorem ggX10_points_X10_within : GoodIn wsX10_points wsX10_within := goodIn_r _ [5] (by decide +kernel) (by decide +kernel)
set_option maxRecDepth 20000 in
theorem gX10_points_X10_within : GoodIn wsX10_points (va_wsS RX10 103 yX10_within wsX10_within) := goodIn_app (goodIn_of _ (by decide +kernel)) ggX10_points_X10_within
set_option maxRecDepth 20000 in
theorem ggX10_points_X10_isJudge : GoodIn wsX10_points wsX10_isJudge := goodIn_r _ [9, 10, 2, 3, 4, 5, 70, 71, 72, 73, 74, 75, 76, 77, 78, 79, 80, 81, 82, 83, 84, 85, 86, 87, 88, 89, 90, 91, 92, 93, 94, 95] (by decide +kernel) (by decide +kernel)
set_option maxRecDepth 20000 in
theorem gX10_points_X10_isJudge : GoodIn wsX10_points (wsV RX10 167 RX10 yX10_isJudge wsX10_isJudge) := goodIn_app (goodIn_of _ (by decide +kernel)) ggX10_points_X10_isJudge
set_option maxRecDepth 20000 in
theorem ggX10_points_X10_isCorner : GoodIn wsX10_points wsX10_isCorner := goodIn_r _ [13, 2, 3, 4, 5] (by decide +kernel) (by decide +kernel)
set_option maxRecDepth 20000 in
theorem gX10_points_X10_isCorner : GoodIn wsX10_points (va_wsS RX10 146 yX10_isCorner wsX10_isCorner) := goodIn_app (goodIn_of _ (by decide +kernel)) ggX10_points_X10_isCorner
set_option maxRecDepth 20000 in
theorem ggX10_points_X1_pointsBy : GoodIn wsX10_points wsX1_pointsBy := goodIn_r _ [18, 19, 20, 21, 22, 23, 24, 25, 26, 27, 28, 29, 30, 31, 32, 33, 17, 34, 35, 36, 37, 38, 39, 40, 4, 41, 42, 43, 44, 45, 46, 47, 48, 49, 50, 51, 52, 53, 54, 55, 56, 57, 58, 59, 60, 61, 62, 63, 64, 65, 66, 67, 68, 69, 96, 97, 83, 84, 85, 86, 87, 88, 89, 90, 91, 92, 93, 94, 95] (by decide +kernel) (by decide +kernel)
set_option maxRecDepth 20000 in
theorem gX10_points_X1_pointsBy : GoodIn wsX10_points (wsV RX10 173 RX1 yX1_pointsBy wsX1_pointsBy) := goodIn_app (goodIn_of _ (by decide +kernel)) ggX10_points_X1_pointsBy
theorem dX10_points_0 : decode cX10_points 0 = .ok (.iload_n 1, 1) := by decide +kernel
theorem dX10_points_1 : decode cX10_points 1 = .ok (.iconst 0, 1) := by decide +kernel
theorem dX10_points_2 : decode cX10_points 2 = .ok (.iconst 2, 1) := by decide +kernel
theorem dX10_points_3 : decode cX10_points 3 = .ok (.invokestatic 103, 3) := by decide +kernel
theorem dX10_points_6 : decode cX10_points 6 = .ok (.ifCond .eq 18, 3) := by decide +kernel
theorem dX10_points_9 : decode cX10_points 9 = .ok (.aload_n 0, 1) := by decide +kernel
theorem dX10_points_10 : decode cX10_points 10 = .ok (.iload_n 2, 1) := by decide +kernel
theorem dX10_points_11 : decode cX10_points 11 = .ok (.invokevirtual 167, 3) := by decide +kernel
theorem dX10_points_14 : decode cX10_points 14 = .ok (.ifCond .eq 10, 3) := by decide +kernel
theorem dX10_points_17 : decode cX10_points 17 = .ok (.iload_n 3, 1) := by decide +kernel
theorem dX10_points_18 : decode cX10_points 18 = .ok (.invokestatic 146, 3) := by decide +kernel
theorem dX10_points_21 : decode cX10_points 21 = .ok (.ifCond .ne 5, 3) := by decide +kernel
theorem dX10_points_24 : decode cX10_points 24 = .ok (.iconst (-1), 1) := by decide +kernel
theorem dX10_points_25 : decode cX10_points 25 = .ok (.ireturn, 1) := by decide +kernel
theorem dX10_points_26 : decode cX10_points 26 = .ok (.aload_n 0, 1) := by decide +kernel
theorem dX10_points_27 : decode cX10_points 27 = .ok (.getfield 40, 3) := by decide +kernel
theorem dX10_points_30 : decode cX10_points 30 = .ok (.iload_n 1, 1) := by decide +kernel
theorem dX10_points_31 : decode cX10_points 31 = .ok (.iload_n 2, 1) := by decide +kernel
theorem dX10_points_32 : decode cX10_points 32 = .ok (.iload_n 3, 1) := by decide +kernel
theorem dX10_points_33 : decode cX10_points 33 = .ok (.invokevirtual 173, 3) := by decide +kernel
theorem dX10_points_36 : decode cX10_points 36 = .ok (.ireturn, 1) := by decide +kernel
set_option maxRecDepth 20000 in
theorem ggX10_end_X10_isRule : GoodIn wsX10_end wsX10_isRule := goodIn_r _ [5, 6, 7, 4, 8] (by decide +kernel) (by decide +kernel)
set_option maxRecDepth 20000 in
theorem gX10_end_X10_isRule : GoodIn wsX10_end (va_wsS RX10 161 yX10_isRule wsX10_isRule) := goodIn_app (goodIn_of _ (by decide +kernel)) ggX10_end_X10_isRule
set_option maxRecDepth 20000 in
theorem ggX10_end_X10_areThree : GoodIn wsX10_end wsX10_areThree := goodIn_r _ [12, 13, 14, 15, 4, 16, 17, 6, 7, 8, 83, 84, 85, 86, 87, 88, 89, 90, 91, 92, 93, 94, 95, 96, 97, 98, 99, 100, 101, 102, 103, 104, 105, 106, 107, 108] (by decide +kernel) (by decide +kernel)
set_option maxRecDepth 20000 in
theorem gX10_end_X10_areThree : GoodIn wsX10_end (wsV RX10 176 RX10 yX10_areThree wsX10_areThree) := goodIn_app (goodIn_of _ (by decide +kernel)) ggX10_end_X10_areThree
set_option maxRecDepth 20000 in
theorem ggX10_end_X10_within : GoodIn wsX10_end wsX10_within := goodIn_r _ [8] (by decide +kernel) (by decide +kernel)
set_option maxRecDepth 20000 in
theorem gX10_end_X10_within : GoodIn wsX10_end (va_wsS RX10 103 yX10_within wsX10_within) := goodIn_app (goodIn_of _ (by decide +kernel)) ggX10_end_X10_within
set_option maxRecDepth 20000 in
theorem ggX10_end_X1_cardBy : GoodIn wsX10_end wsX1_cardBy := goodIn_r _ [22, 23, 24, 25, 26, 27, 28, 29, 30, 31, 32, 33, 21, 34, 35, 36, 37, 38, 39, 40, 4, 41, 42, 43, 44, 45, 46, 47, 48, 49, 50, 51, 52, 53, 54, 55, 56, 57, 58, 59, 60, 61, 62, 63, 64, 65, 66, 67, 68, 69, 70, 71, 72, 109, 110, 96, 97, 98, 99, 100, 101, 102, 103, 104, 105, 106, 107, 108] (by decide +kernel) (by decide +kernel)
set_option maxRecDepth 20000 in
theorem gX10_end_X1_cardBy : GoodIn wsX10_end (wsV RX10 170 RX1 yX1_cardBy wsX1_cardBy) := goodIn_app (goodIn_of _ (by decide +kernel)) ggX10_end_X1_cardBy
set_option maxRecDepth 20000 in
theorem ggX10_end_X1_ownerOf : GoodIn wsX10_end wsX1_ownerOf := goodIn_r _ [75] (by decide +kernel) (by decide +kernel)
set_option maxRecDepth 20000 in
theorem gX10_end_X1_ownerOf : GoodIn wsX10_end (va_wsS RX10 179 yX1_ownerOf wsX1_ownerOf) := goodIn_app (goodIn_of _ (by decide +kernel)) ggX10_end_X1_ownerOf
set_option maxRecDepth 20000 in
theorem ggX10_end_X1_endOf : GoodIn wsX10_end wsX1_endOf := goodIn_r _ [78] (by decide +kernel) (by decide +kernel)
set_option maxRecDepth 20000 in
theorem gX10_end_X1_endOf : GoodIn wsX10_end (va_wsS RX10 183 yX1_endOf wsX1_endOf) := goodIn_app (goodIn_of _ (by decide +kernel)) ggX10_end_X1_endOf
set_option maxRecDepth 20000 in
theorem ggX10_end_X1_kindOf : GoodIn wsX10_end wsX1_kindOf := goodIn_r _ [81, 82, 77, 21, 78] (by decide +kernel) (by decide +kernel)
set_option maxRecDepth 20000 in
theorem gX10_end_X1_kindOf : GoodIn wsX10_end (va_wsS RX10 186 yX1_kindOf wsX1_kindOf) := goodIn_app (goodIn_of _ (by decide +kernel)) ggX10_end_X1_kindOf
theorem dX10_end_0 : decode cX10_end 0 = .ok (.iload_n 1, 1) := by decide +kernel
theorem dX10_end_1 : decode cX10_end 1 = .ok (.invokestatic 161, 3) := by decide +kernel
theorem dX10_end_4 : decode cX10_end 4 = .ok (.ifCond .eq 24, 3) := by decide +kernel
theorem dX10_end_7 : decode cX10_end 7 = .ok (.aload_n 0, 1) := by decide +kernel
theorem dX10_end_8 : decode cX10_end 8 = .ok (.iload_n 2, 1) := by decide +kernel
theorem dX10_end_9 : decode cX10_end 9 = .ok (.iload_n 3, 1) := by decide +kernel
theorem dX10_end_10 : decode cX10_end 10 = .ok (.iload 4, 2) := by decide +kernel
theorem dX10_end_12 : decode cX10_end 12 = .ok (.invokevirtual 176, 3) := by decide +kernel
theorem dX10_end_15 : decode cX10_end 15 = .ok (.ifCond .eq 13, 3) := by decide +kernel
theorem dX10_end_18 : decode cX10_end 18 = .ok (.iload 5, 2) := by decide +kernel
theorem dX10_end_20 : decode cX10_end 20 = .ok (.iconst 0, 1) := by decide +kernel
theorem dX10_end_21 : decode cX10_end 21 = .ok (.iconst 1, 1) := by decide +kernel
theorem dX10_end_22 : decode cX10_end 22 = .ok (.invokestatic 103, 3) := by decide +kernel
theorem dX10_end_25 : decode cX10_end 25 = .ok (.ifCond .ne 5, 3) := by decide +kernel
theorem dX10_end_28 : decode cX10_end 28 = .ok (.iconst (-1), 1) := by decide +kernel
theorem dX10_end_29 : decode cX10_end 29 = .ok (.ireturn, 1) := by decide +kernel
theorem dX10_end_30 : decode cX10_end 30 = .ok (.aload_n 0, 1) := by decide +kernel
theorem dX10_end_31 : decode cX10_end 31 = .ok (.getfield 40, 3) := by decide +kernel
theorem dX10_end_34 : decode cX10_end 34 = .ok (.iload_n 1, 1) := by decide +kernel
theorem dX10_end_35 : decode cX10_end 35 = .ok (.iload_n 2, 1) := by decide +kernel
theorem dX10_end_36 : decode cX10_end 36 = .ok (.invokevirtual 170, 3) := by decide +kernel
theorem dX10_end_39 : decode cX10_end 39 = .ok (.invokestatic 179, 3) := by decide +kernel
theorem dX10_end_42 : decode cX10_end 42 = .ok (.istore 6, 2) := by decide +kernel
theorem dX10_end_44 : decode cX10_end 44 = .ok (.aload_n 0, 1) := by decide +kernel
theorem dX10_end_45 : decode cX10_end 45 = .ok (.getfield 40, 3) := by decide +kernel
theorem dX10_end_48 : decode cX10_end 48 = .ok (.iload_n 1, 1) := by decide +kernel
theorem dX10_end_49 : decode cX10_end 49 = .ok (.iload_n 3, 1) := by decide +kernel
theorem dX10_end_50 : decode cX10_end 50 = .ok (.invokevirtual 170, 3) := by decide +kernel
theorem dX10_end_53 : decode cX10_end 53 = .ok (.invokestatic 179, 3) := by decide +kernel
theorem dX10_end_56 : decode cX10_end 56 = .ok (.istore 7, 2) := by decide +kernel
theorem dX10_end_58 : decode cX10_end 58 = .ok (.aload_n 0, 1) := by decide +kernel
theorem dX10_end_59 : decode cX10_end 59 = .ok (.getfield 40, 3) := by decide +kernel
theorem dX10_end_62 : decode cX10_end 62 = .ok (.iload_n 1, 1) := by decide +kernel
theorem dX10_end_63 : decode cX10_end 63 = .ok (.iload 4, 2) := by decide +kernel
theorem dX10_end_65 : decode cX10_end 65 = .ok (.invokevirtual 170, 3) := by decide +kernel
theorem dX10_end_68 : decode cX10_end 68 = .ok (.invokestatic 179, 3) := by decide +kernel
theorem dX10_end_71 : decode cX10_end 71 = .ok (.istore 8, 2) := by decide +kernel
theorem dX10_end_73 : decode cX10_end 73 = .ok (.iload 5, 2) := by decide +kernel
theorem dX10_end_75 : decode cX10_end 75 = .ok (.ifCond .ne 15, 3) := by decide +kernel
theorem dX10_end_78 : decode cX10_end 78 = .ok (.iload 6, 2) := by decide +kernel
theorem dX10_end_80 : decode cX10_end 80 = .ok (.iload 7, 2) := by decide +kernel
theorem dX10_end_82 : decode cX10_end 82 = .ok (.iload 8, 2) := by decide +kernel
theorem dX10_end_84 : decode cX10_end 84 = .ok (.invokestatic 183, 3) := by decide +kernel
theorem dX10_end_87 : decode cX10_end 87 = .ok (.goto 12, 3) := by decide +kernel
theorem dX10_end_90 : decode cX10_end 90 = .ok (.iload 6, 2) := by decide +kernel
theorem dX10_end_92 : decode cX10_end 92 = .ok (.iload 7, 2) := by decide +kernel
theorem dX10_end_94 : decode cX10_end 94 = .ok (.iload 8, 2) := by decide +kernel
theorem dX10_end_96 : decode cX10_end 96 = .ok (.invokestatic 186, 3) := by decide +kernel
theorem dX10_end_99 : decode cX10_end 99 = .ok (.ireturn, 1) := by decide +kernel
set_option maxRecDepth 20000 in
theorem ggX10_others_X10_isRule : GoodIn wsX10_others wsX10_isRule := goodIn_r _ [5, 6, 7, 4, 8] (by decide +kernel) (by decide +kernel)
set_option maxRecDepth 20000 in
theorem gX10_others_X10_isRule : GoodIn wsX10_others (va_wsS RX10 161 yX10_isRule wsX10_isRule) := goodIn_app (goodIn_of _ (by decide +kernel)) ggX10_others_X10_isRule
set_option maxRecDepth 20000 in
theorem ggX10_others_X10_within : GoodIn wsX10_others wsX10_within := goodIn_r _ [8] (by decide +kernel) (by decide +kernel)
set_option maxRecDepth 20000 in
theorem gX10_others_X10_within : GoodIn wsX10_others (va_wsS RX10 103 yX10_within wsX10_within) := goodIn_app (goodIn_of _ (by decide +kernel)) ggX10_others_X10_within
set_option maxRecDepth 20000 in
theorem ggX10_others_X1_setsThatEnd : GoodIn wsX10_others wsX1_setsThatEnd := goodIn_r _ [13, 14, 15, 16, 17, 18, 12, 19, 20, 21, 22, 23, 24, 25, 26, 27, 28, 29, 30, 31, 32, 33, 34, 35, 36, 4, 37, 38, 39, 40, 41, 42, 43, 44, 45, 46, 47, 48, 49, 50, 51, 52, 53, 54, 55, 56, 57, 58, 59, 60, 61, 62, 63, 64, 65, 66, 67, 68, 69, 70, 71, 72, 73, 74, 88, 89, 90, 91, 92, 93, 94, 95, 96, 97, 98, 99, 100, 101, 102] (by decide +kernel) (by decide +kernel)
set_option maxRecDepth 20000 in
theorem gX10_others_X1_setsThatEnd : GoodIn wsX10_others (wsV RX10 189 RX1 yX1_setsThatEnd wsX1_setsThatEnd) := goodIn_app (goodIn_of _ (by decide +kernel)) ggX10_others_X1_setsThatEnd
theorem dX10_others_0 : decode cX10_others 0 = .ok (.iload_n 1, 1) := by decide +kernel
theorem dX10_others_1 : decode cX10_others 1 = .ok (.invokestatic 161, 3) := by decide +kernel
theorem dX10_others_4 : decode cX10_others 4 = .ok (.ifCond .eq 24, 3) := by decide +kernel
theorem dX10_others_7 : decode cX10_others 7 = .ok (.iload_n 2, 1) := by decide +kernel
theorem dX10_others_8 : decode cX10_others 8 = .ok (.iconst 0, 1) := by decide +kernel
theorem dX10_others_9 : decode cX10_others 9 = .ok (.iconst 2, 1) := by decide +kernel
theorem dX10_others_10 : decode cX10_others 10 = .ok (.invokestatic 103, 3) := by decide +kernel
theorem dX10_others_13 : decode cX10_others 13 = .ok (.ifCond .eq 15, 3) := by decide +kernel
theorem dX10_others_16 : decode cX10_others 16 = .ok (.aload_n 0, 1) := by decide +kernel
theorem dX10_others_17 : decode cX10_others 17 = .ok (.getfield 40, 3) := by decide +kernel
theorem dX10_others_20 : decode cX10_others 20 = .ok (.iload_n 1, 1) := by decide +kernel
theorem dX10_others_21 : decode cX10_others 21 = .ok (.iload_n 2, 1) := by decide +kernel
theorem dX10_others_22 : decode cX10_others 22 = .ok (.invokevirtual 189, 3) := by decide +kernel
theorem dX10_others_25 : decode cX10_others 25 = .ok (.goto 4, 3) := by decide +kernel
theorem dX10_others_28 : decode cX10_others 28 = .ok (.iconst (-1), 1) := by decide +kernel
theorem dX10_others_29 : decode cX10_others 29 = .ok (.ireturn, 1) := by decide +kernel
set_option maxRecDepth 20000 in
theorem ggX10_men_X10_isRule : GoodIn wsX10_men wsX10_isRule := goodIn_r _ [5, 6, 7, 4, 8] (by decide +kernel) (by decide +kernel)
set_option maxRecDepth 20000 in
theorem gX10_men_X10_isRule : GoodIn wsX10_men (va_wsS RX10 161 yX10_isRule wsX10_isRule) := goodIn_app (goodIn_of _ (by decide +kernel)) ggX10_men_X10_isRule
set_option maxRecDepth 20000 in
theorem ggX10_men_X1_judgesAgainstHardness : GoodIn wsX10_men wsX1_judgesAgainstHardness := goodIn_r _ [13, 14, 15, 16, 17, 18, 19, 20, 21, 22, 23, 24, 25, 26, 27, 28, 29, 30, 31, 32, 12, 33, 34, 35, 36, 37, 38, 39, 40, 41, 42, 43, 44, 45, 46, 47, 48, 49, 50, 51, 52, 4, 53, 54, 55, 56, 57, 58, 59, 60, 61, 62, 63, 64, 65, 66, 67, 68, 69, 70, 71, 72, 73, 74, 75, 76, 77, 78, 79, 80, 81, 82, 83, 84, 98, 99, 100, 101, 102, 103, 104, 105, 106, 107, 108, 109, 110, 111, 112] (by decide +kernel) (by decide +kernel)
set_option maxRecDepth 20000 in
theorem gX10_men_X1_judgesAgainstHardness : GoodIn wsX10_men (wsV RX10 192 RX1 yX1_judgesAgainstHardness wsX1_judgesAgainstHardness) := goodIn_app (goodIn_of _ (by decide +kernel)) ggX10_men_X1_judgesAgainstHardness
theorem dX10_men_0 : decode cX10_men 0 = .ok (.iload_n 1, 1) := by decide +kernel
theorem dX10_men_1 : decode cX10_men 1 = .ok (.invokestatic 161, 3) := by decide +kernel
theorem dX10_men_4 : decode cX10_men 4 = .ok (.ifCond .eq 14, 3) := by decide +kernel
theorem dX10_men_7 : decode cX10_men 7 = .ok (.aload_n 0, 1) := by decide +kernel
theorem dX10_men_8 : decode cX10_men 8 = .ok (.getfield 40, 3) := by decide +kernel
theorem dX10_men_11 : decode cX10_men 11 = .ok (.iload_n 1, 1) := by decide +kernel
theorem dX10_men_12 : decode cX10_men 12 = .ok (.invokevirtual 192, 3) := by decide +kernel
theorem dX10_men_15 : decode cX10_men 15 = .ok (.goto 4, 3) := by decide +kernel
theorem dX10_men_18 : decode cX10_men 18 = .ok (.iconst (-1), 1) := by decide +kernel
theorem dX10_men_19 : decode cX10_men 19 = .ok (.ireturn, 1) := by decide +kernel
set_option maxRecDepth 20000 in
theorem ggX10_coins_X10_within : GoodIn wsX10_coins wsX10_within := goodIn_r _ [6] (by decide +kernel) (by decide +kernel)
set_option maxRecDepth 20000 in
theorem gX10_coins_X10_within : GoodIn wsX10_coins (va_wsS RX10 103 yX10_within wsX10_within) := goodIn_app (goodIn_of _ (by decide +kernel)) ggX10_coins_X10_within
set_option maxRecDepth 20000 in
theorem ggX10_coins_X10_areThree : GoodIn wsX10_coins wsX10_areThree := goodIn_r _ [10, 11, 12, 13, 5, 14, 15, 3, 4, 6, 104, 105, 106, 107, 108, 109, 110, 111, 112, 113, 114, 115, 116, 121, 122, 123, 124, 125, 126, 127, 128, 129, 130, 131, 132, 133] (by decide +kernel) (by decide +kernel)
set_option maxRecDepth 20000 in
theorem gX10_coins_X10_areThree : GoodIn wsX10_coins (wsV RX10 176 RX10 yX10_areThree wsX10_areThree) := goodIn_app (goodIn_of _ (by decide +kernel)) ggX10_coins_X10_areThree
set_option maxRecDepth 20000 in
theorem ggX10_coins_X2_toss : GoodIn wsX10_coins wsX2_toss := goodIn_r _ [20, 21, 22, 23, 24, 25, 26, 27, 28, 29, 19, 30, 31, 32, 33, 34, 35, 36, 37, 38, 39, 40, 41, 42, 43, 44, 45, 46, 47, 48, 49, 50, 51, 52, 53, 54, 55, 56, 57, 58, 59, 60, 61, 62, 63, 64, 65, 66, 67, 68, 69, 5, 70, 71, 72, 73, 74, 75, 76, 77, 78, 79, 80, 81, 82, 83, 84, 85, 86, 87, 88, 89, 90, 91, 117, 118, 119, 120, 121, 122, 123, 124, 125, 126, 127, 128, 129, 130, 131, 132, 133, 134, 135] (by decide +kernel) (by decide +kernel)
set_option maxRecDepth 20000 in
theorem gX10_coins_X2_toss : GoodIn wsX10_coins (wsV RX10 197 RX2 yX2_toss wsX2_toss) := goodIn_app (goodIn_of _ (by decide +kernel)) ggX10_coins_X2_toss
set_option maxRecDepth 20000 in
theorem ggX10_coins_X2_oddsOf : GoodIn wsX10_coins wsX2_oddsOf := goodIn_r _ [95, 22, 96, 97, 98, 99, 19, 100, 21, 101, 102, 55, 103, 117, 118, 119, 120] (by decide +kernel) (by decide +kernel)
set_option maxRecDepth 20000 in
theorem gX10_coins_X2_oddsOf : GoodIn wsX10_coins (wsV RX10 204 RX2 yX2_oddsOf wsX2_oddsOf) := goodIn_app (goodIn_of _ (by decide +kernel)) ggX10_coins_X2_oddsOf
theorem dX10_coins_0 : decode cX10_coins 0 = .ok (.iload_n 1, 1) := by decide +kernel
theorem dX10_coins_1 : decode cX10_coins 1 = .ok (.iconst 0, 1) := by decide +kernel
theorem dX10_coins_2 : decode cX10_coins 2 = .ok (.iconst 1, 1) := by decide +kernel
theorem dX10_coins_3 : decode cX10_coins 3 = .ok (.invokestatic 103, 3) := by decide +kernel
theorem dX10_coins_6 : decode cX10_coins 6 = .ok (.ifCond .eq 14, 3) := by decide +kernel
theorem dX10_coins_9 : decode cX10_coins 9 = .ok (.aload_n 0, 1) := by decide +kernel
theorem dX10_coins_10 : decode cX10_coins 10 = .ok (.iload_n 2, 1) := by decide +kernel
theorem dX10_coins_11 : decode cX10_coins 11 = .ok (.iload_n 3, 1) := by decide +kernel
theorem dX10_coins_12 : decode cX10_coins 12 = .ok (.iload 4, 2) := by decide +kernel
theorem dX10_coins_14 : decode cX10_coins 14 = .ok (.invokevirtual 176, 3) := by decide +kernel
theorem dX10_coins_17 : decode cX10_coins 17 = .ok (.ifCond .ne 7, 3) := by decide +kernel
theorem dX10_coins_20 : decode cX10_coins 20 = .ok (.ldc2_w 195, 3) := by decide +kernel
theorem dX10_coins_23 : decode cX10_coins 23 = .ok (.lreturn, 1) := by decide +kernel
theorem dX10_coins_24 : decode cX10_coins 24 = .ok (.iload 5, 2) := by decide +kernel
theorem dX10_coins_26 : decode cX10_coins 26 = .ok (.iconst (-1), 1) := by decide +kernel
theorem dX10_coins_27 : decode cX10_coins 27 = .ok (.iconst 2, 1) := by decide +kernel
theorem dX10_coins_28 : decode cX10_coins 28 = .ok (.invokestatic 103, 3) := by decide +kernel
theorem dX10_coins_31 : decode cX10_coins 31 = .ok (.ifCond .eq 23, 3) := by decide +kernel
theorem dX10_coins_34 : decode cX10_coins 34 = .ok (.iload 6, 2) := by decide +kernel
theorem dX10_coins_36 : decode cX10_coins 36 = .ok (.iconst 0, 1) := by decide +kernel
theorem dX10_coins_37 : decode cX10_coins 37 = .ok (.iload 5, 2) := by decide +kernel
theorem dX10_coins_39 : decode cX10_coins 39 = .ok (.iconst (-1), 1) := by decide +kernel
theorem dX10_coins_40 : decode cX10_coins 40 = .ok (.if_icmp .ne 7, 3) := by decide +kernel
theorem dX10_coins_43 : decode cX10_coins 43 = .ok (.iconst 0, 1) := by decide +kernel
theorem dX10_coins_44 : decode cX10_coins 44 = .ok (.goto 4, 3) := by decide +kernel
theorem dX10_coins_47 : decode cX10_coins 47 = .ok (.iconst 1, 1) := by decide +kernel
theorem dX10_coins_48 : decode cX10_coins 48 = .ok (.invokestatic 103, 3) := by decide +kernel
theorem dX10_coins_51 : decode cX10_coins 51 = .ok (.ifCond .ne 7, 3) := by decide +kernel
theorem dX10_coins_54 : decode cX10_coins 54 = .ok (.ldc2_w 195, 3) := by decide +kernel
theorem dX10_coins_57 : decode cX10_coins 57 = .ok (.lreturn, 1) := by decide +kernel
theorem dX10_coins_58 : decode cX10_coins 58 = .ok (.aload_n 0, 1) := by decide +kernel
theorem dX10_coins_59 : decode cX10_coins 59 = .ok (.getfield 49, 3) := by decide +kernel
theorem dX10_coins_62 : decode cX10_coins 62 = .ok (.iload_n 1, 1) := by decide +kernel
theorem dX10_coins_63 : decode cX10_coins 63 = .ok (.iload_n 2, 1) := by decide +kernel
theorem dX10_coins_64 : decode cX10_coins 64 = .ok (.iload_n 3, 1) := by decide +kernel
theorem dX10_coins_65 : decode cX10_coins 65 = .ok (.iload 4, 2) := by decide +kernel
theorem dX10_coins_67 : decode cX10_coins 67 = .ok (.invokevirtual 197, 3) := by decide +kernel
theorem dX10_coins_70 : decode cX10_coins 70 = .ok (.iload 5, 2) := by decide +kernel
theorem dX10_coins_72 : decode cX10_coins 72 = .ok (.iconst (-1), 1) := by decide +kernel
theorem dX10_coins_73 : decode cX10_coins 73 = .ok (.if_icmp .ne 12, 3) := by decide +kernel
theorem dX10_coins_76 : decode cX10_coins 76 = .ok (.aload_n 0, 1) := by decide +kernel
theorem dX10_coins_77 : decode cX10_coins 77 = .ok (.getfield 49, 3) := by decide +kernel
theorem dX10_coins_80 : decode cX10_coins 80 = .ok (.getfield 201, 3) := by decide +kernel
theorem dX10_coins_83 : decode cX10_coins 83 = .ok (.i2l, 1) := by decide +kernel
theorem dX10_coins_84 : decode cX10_coins 84 = .ok (.lreturn, 1) := by decide +kernel
theorem dX10_coins_85 : decode cX10_coins 85 = .ok (.aload_n 0, 1) := by decide +kernel
theorem dX10_coins_86 : decode cX10_coins 86 = .ok (.getfield 49, 3) := by decide +kernel
theorem dX10_coins_89 : decode cX10_coins 89 = .ok (.iload 5, 2) := by decide +kernel
theorem dX10_coins_91 : decode cX10_coins 91 = .ok (.iload 6, 2) := by decide +kernel
theorem dX10_coins_93 : decode cX10_coins 93 = .ok (.invokevirtual 204, 3) := by decide +kernel
theorem dX10_coins_96 : decode cX10_coins 96 = .ok (.lreturn, 1) := by decide +kernel
set_option maxRecDepth 20000 in
theorem ggX10_seats_X10_within : GoodIn wsX10_seats wsX10_within := goodIn_r _ [5] (by decide +kernel) (by decide +kernel)
set_option maxRecDepth 20000 in
theorem gX10_seats_X10_within : GoodIn wsX10_seats (va_wsS RX10 103 yX10_within wsX10_within) := goodIn_app (goodIn_of _ (by decide +kernel)) ggX10_seats_X10_within
set_option maxRecDepth 20000 in
theorem ggX10_seats_X7_choose : GoodIn wsX10_seats wsX7_choose := goodIn_r _ [10, 11, 12, 13, 14, 9, 15, 16, 17, 18, 19, 20, 21, 22, 23, 24, 25, 26, 27, 28, 29, 30, 31, 32, 33, 34, 35, 36, 37, 38, 39, 40, 41, 42, 43, 44, 45, 59, 60, 61, 62, 63, 64, 65, 66, 67, 68, 69, 70, 71, 72, 73, 74, 75] (by decide +kernel) (by decide +kernel)
set_option maxRecDepth 20000 in
theorem gX10_seats_X7_choose : GoodIn wsX10_seats (wsV RX10 208 RX7 yX7_choose wsX7_choose) := goodIn_app (goodIn_of _ (by decide +kernel)) ggX10_seats_X7_choose
theorem dX10_seats_0 : decode cX10_seats 0 = .ok (.iload_n 1, 1) := by decide +kernel
theorem dX10_seats_1 : decode cX10_seats 1 = .ok (.iconst 0, 1) := by decide +kernel
theorem dX10_seats_2 : decode cX10_seats 2 = .ok (.iconst 4, 1) := by decide +kernel
theorem dX10_seats_3 : decode cX10_seats 3 = .ok (.invokestatic 103, 3) := by decide +kernel
theorem dX10_seats_6 : decode cX10_seats 6 = .ok (.ifCond .ne 5, 3) := by decide +kernel
theorem dX10_seats_9 : decode cX10_seats 9 = .ok (.iconst (-1), 1) := by decide +kernel
theorem dX10_seats_10 : decode cX10_seats 10 = .ok (.ireturn, 1) := by decide +kernel
theorem dX10_seats_11 : decode cX10_seats 11 = .ok (.aload_n 0, 1) := by decide +kernel
theorem dX10_seats_12 : decode cX10_seats 12 = .ok (.getfield 56, 3) := by decide +kernel
theorem dX10_seats_15 : decode cX10_seats 15 = .ok (.invokevirtual 208, 3) := by decide +kernel
theorem dX10_seats_18 : decode cX10_seats 18 = .ok (.aload_n 0, 1) := by decide +kernel
theorem dX10_seats_19 : decode cX10_seats 19 = .ok (.getfield 56, 3) := by decide +kernel
theorem dX10_seats_22 : decode cX10_seats 22 = .ok (.getfield 211, 3) := by decide +kernel
theorem dX10_seats_25 : decode cX10_seats 25 = .ok (.iload_n 1, 1) := by decide +kernel
theorem dX10_seats_26 : decode cX10_seats 26 = .ok (.iaload, 1) := by decide +kernel
theorem dX10_seats_27 : decode cX10_seats 27 = .ok (.ireturn, 1) := by decide +kernel
set_option maxRecDepth 20000 in
theorem ggX10_delay_X10_isJudge : GoodIn wsX10_delay wsX10_isJudge := goodIn_r _ [6, 7, 8, 9, 5, 10, 11, 12, 13, 14, 15, 16, 17, 18, 19, 20, 21, 22, 23, 27, 28, 29, 30, 31, 32, 33, 34, 35, 36, 37, 38, 39] (by decide +kernel) (by decide +kernel)
set_option maxRecDepth 20000 in
theorem gX10_delay_X10_isJudge : GoodIn wsX10_delay (wsV RX10 167 RX10 yX10_isJudge wsX10_isJudge) := goodIn_app (goodIn_of _ (by decide +kernel)) ggX10_delay_X10_isJudge
set_option maxRecDepth 20000 in
theorem ggX10_delay_X10_within : GoodIn wsX10_delay wsX10_within := goodIn_r _ [10] (by decide +kernel) (by decide +kernel)
set_option maxRecDepth 20000 in
theorem gX10_delay_X10_within : GoodIn wsX10_delay (va_wsS RX10 103 yX10_within wsX10_within) := goodIn_app (goodIn_of _ (by decide +kernel)) ggX10_delay_X10_within
theorem dX10_delay_0 : decode cX10_delay 0 = .ok (.aload_n 0, 1) := by decide +kernel
theorem dX10_delay_1 : decode cX10_delay 1 = .ok (.iload_n 1, 1) := by decide +kernel
theorem dX10_delay_2 : decode cX10_delay 2 = .ok (.invokevirtual 167, 3) := by decide +kernel
theorem dX10_delay_5 : decode cX10_delay 5 = .ok (.ifCond .eq 13, 3) := by decide +kernel
theorem dX10_delay_8 : decode cX10_delay 8 = .ok (.iload_n 2, 1) := by decide +kernel
theorem dX10_delay_9 : decode cX10_delay 9 = .ok (.iconst 0, 1) := by decide +kernel
theorem dX10_delay_10 : decode cX10_delay 10 = .ok (.bipush 9, 2) := by decide +kernel
theorem dX10_delay_12 : decode cX10_delay 12 = .ok (.invokestatic 103, 3) := by decide +kernel
theorem dX10_delay_15 : decode cX10_delay 15 = .ok (.ifCond .ne 5, 3) := by decide +kernel
theorem dX10_delay_18 : decode cX10_delay 18 = .ok (.iconst (-1), 1) := by decide +kernel
theorem dX10_delay_19 : decode cX10_delay 19 = .ok (.ireturn, 1) := by decide +kernel
theorem dX10_delay_20 : decode cX10_delay 20 = .ok (.aload_n 0, 1) := by decide +kernel
theorem dX10_delay_21 : decode cX10_delay 21 = .ok (.getfield 63, 3) := by decide +kernel
theorem dX10_delay_24 : decode cX10_delay 24 = .ok (.getfield 214, 3) := by decide +kernel
theorem dX10_delay_27 : decode cX10_delay 27 = .ok (.iload_n 1, 1) := by decide +kernel
theorem dX10_delay_28 : decode cX10_delay 28 = .ok (.iaload, 1) := by decide +kernel
theorem dX10_delay_29 : decode cX10_delay 29 = .ok (.istore_n 3, 1) := by decide +kernel
theorem dX10_delay_30 : decode cX10_delay 30 = .ok (.aload_n 0, 1) := by decide +kernel
theorem dX10_delay_31 : decode cX10_delay 31 = .ok (.getfield 63, 3) := by decide +kernel
theorem dX10_delay_34 : decode cX10_delay 34 = .ok (.getfield 214, 3) := by decide +kernel
theorem dX10_delay_37 : decode cX10_delay 37 = .ok (.iload_n 1, 1) := by decide +kernel
theorem dX10_delay_38 : decode cX10_delay 38 = .ok (.iload_n 2, 1) := by decide +kernel
theorem dX10_delay_39 : decode cX10_delay 39 = .ok (.iastore, 1) := by decide +kernel
theorem dX10_delay_40 : decode cX10_delay 40 = .ok (.iload_n 3, 1) := by decide +kernel
theorem dX10_delay_41 : decode cX10_delay 41 = .ok (.ireturn, 1) := by decide +kernel
set_option maxRecDepth 20000 in
theorem ggX10_buttons_X10_within : GoodIn wsX10_buttons wsX10_within := goodIn_r _ [6] (by decide +kernel) (by decide +kernel)
set_option maxRecDepth 20000 in
theorem gX10_buttons_X10_within : GoodIn wsX10_buttons (va_wsS RX10 103 yX10_within wsX10_within) := goodIn_app (goodIn_of _ (by decide +kernel)) ggX10_buttons_X10_within
set_option maxRecDepth 20000 in
theorem ggX10_buttons_X0_tellOf : GoodIn wsX10_buttons wsX0_tellOf := goodIn_r _ [11, 12, 13, 14, 15, 16, 17, 18, 19, 10, 20, 21, 22, 23, 24, 25, 26, 27, 28, 29, 30, 31, 32, 33, 34, 35, 36, 37, 38, 39, 40, 41, 42, 43, 44, 45, 46, 47, 48, 49, 50, 51, 52, 53, 54, 55, 56, 57, 58, 59, 60, 61, 62, 63, 64, 65, 66, 67, 94, 95, 96, 97, 98, 81, 82, 83, 84, 85, 86, 87, 88, 89, 90, 91, 92, 93, 99, 100, 101] (by decide +kernel) (by decide +kernel)
set_option maxRecDepth 20000 in
theorem gX10_buttons_X0_tellOf : GoodIn wsX10_buttons (wsV RX10 220 RX0 yX0_tellOf wsX0_tellOf) := goodIn_app (goodIn_of _ (by decide +kernel)) ggX10_buttons_X0_tellOf
theorem dX10_buttons_0 : decode cX10_buttons 0 = .ok (.iload_n 1, 1) := by decide +kernel
theorem dX10_buttons_1 : decode cX10_buttons 1 = .ok (.iconst (-1), 1) := by decide +kernel
theorem dX10_buttons_2 : decode cX10_buttons 2 = .ok (.aload_n 0, 1) := by decide +kernel
theorem dX10_buttons_3 : decode cX10_buttons 3 = .ok (.getfield 32, 3) := by decide +kernel
theorem dX10_buttons_6 : decode cX10_buttons 6 = .ok (.getfield 217, 3) := by decide +kernel
theorem dX10_buttons_9 : decode cX10_buttons 9 = .ok (.iconst 1, 1) := by decide +kernel
theorem dX10_buttons_10 : decode cX10_buttons 10 = .ok (.isub, 1) := by decide +kernel
theorem dX10_buttons_11 : decode cX10_buttons 11 = .ok (.invokestatic 103, 3) := by decide +kernel
theorem dX10_buttons_14 : decode cX10_buttons 14 = .ok (.ifCond .eq 13, 3) := by decide +kernel
theorem dX10_buttons_17 : decode cX10_buttons 17 = .ok (.iload_n 2, 1) := by decide +kernel
theorem dX10_buttons_18 : decode cX10_buttons 18 = .ok (.iconst 1, 1) := by decide +kernel
theorem dX10_buttons_19 : decode cX10_buttons 19 = .ok (.bipush 8, 2) := by decide +kernel
theorem dX10_buttons_21 : decode cX10_buttons 21 = .ok (.invokestatic 103, 3) := by decide +kernel
theorem dX10_buttons_24 : decode cX10_buttons 24 = .ok (.ifCond .ne 5, 3) := by decide +kernel
theorem dX10_buttons_27 : decode cX10_buttons 27 = .ok (.iconst (-1), 1) := by decide +kernel
theorem dX10_buttons_28 : decode cX10_buttons 28 = .ok (.ireturn, 1) := by decide +kernel
theorem dX10_buttons_29 : decode cX10_buttons 29 = .ok (.iload_n 3, 1) := by decide +kernel
theorem dX10_buttons_30 : decode cX10_buttons 30 = .ok (.iconst 0, 1) := by decide +kernel
theorem dX10_buttons_31 : decode cX10_buttons 31 = .ok (.bipush 9, 2) := by decide +kernel
theorem dX10_buttons_33 : decode cX10_buttons 33 = .ok (.invokestatic 103, 3) := by decide +kernel
theorem dX10_buttons_36 : decode cX10_buttons 36 = .ok (.ifCond .eq 13, 3) := by decide +kernel
theorem dX10_buttons_39 : decode cX10_buttons 39 = .ok (.iload 4, 2) := by decide +kernel
theorem dX10_buttons_41 : decode cX10_buttons 41 = .ok (.iconst 0, 1) := by decide +kernel
theorem dX10_buttons_42 : decode cX10_buttons 42 = .ok (.iconst 3, 1) := by decide +kernel
theorem dX10_buttons_43 : decode cX10_buttons 43 = .ok (.invokestatic 103, 3) := by decide +kernel
theorem dX10_buttons_46 : decode cX10_buttons 46 = .ok (.ifCond .ne 5, 3) := by decide +kernel
theorem dX10_buttons_49 : decode cX10_buttons 49 = .ok (.iconst (-1), 1) := by decide +kernel
theorem dX10_buttons_50 : decode cX10_buttons 50 = .ok (.ireturn, 1) := by decide +kernel
theorem dX10_buttons_51 : decode cX10_buttons 51 = .ok (.iload_n 1, 1) := by decide +kernel
theorem dX10_buttons_52 : decode cX10_buttons 52 = .ok (.ifCond .lt 16, 3) := by decide +kernel
theorem dX10_buttons_55 : decode cX10_buttons 55 = .ok (.aload_n 0, 1) := by decide +kernel
theorem dX10_buttons_56 : decode cX10_buttons 56 = .ok (.getfield 72, 3) := by decide +kernel
theorem dX10_buttons_59 : decode cX10_buttons 59 = .ok (.iload_n 1, 1) := by decide +kernel
theorem dX10_buttons_60 : decode cX10_buttons 60 = .ok (.iload_n 2, 1) := by decide +kernel
theorem dX10_buttons_61 : decode cX10_buttons 61 = .ok (.iload_n 3, 1) := by decide +kernel
theorem dX10_buttons_62 : decode cX10_buttons 62 = .ok (.iload 4, 2) := by decide +kernel
theorem dX10_buttons_64 : decode cX10_buttons 64 = .ok (.invokevirtual 220, 3) := by decide +kernel
theorem dX10_buttons_67 : decode cX10_buttons 67 = .ok (.ireturn, 1) := by decide +kernel
theorem dX10_buttons_68 : decode cX10_buttons 68 = .ok (.iconst 0, 1) := by decide +kernel
theorem dX10_buttons_69 : decode cX10_buttons 69 = .ok (.istore 5, 2) := by decide +kernel
theorem dX10_buttons_71 : decode cX10_buttons 71 = .ok (.iconst 0, 1) := by decide +kernel
theorem dX10_buttons_72 : decode cX10_buttons 72 = .ok (.istore 6, 2) := by decide +kernel
theorem dX10_buttons_74 : decode cX10_buttons 74 = .ok (.iload 6, 2) := by decide +kernel
theorem dX10_buttons_76 : decode cX10_buttons 76 = .ok (.aload_n 0, 1) := by decide +kernel
theorem dX10_buttons_77 : decode cX10_buttons 77 = .ok (.getfield 32, 3) := by decide +kernel
theorem dX10_buttons_80 : decode cX10_buttons 80 = .ok (.getfield 217, 3) := by decide +kernel
theorem dX10_buttons_83 : decode cX10_buttons 83 = .ok (.if_icmp .ge 27, 3) := by decide +kernel
theorem dX10_buttons_86 : decode cX10_buttons 86 = .ok (.iload 5, 2) := by decide +kernel
theorem dX10_buttons_88 : decode cX10_buttons 88 = .ok (.aload_n 0, 1) := by decide +kernel
theorem dX10_buttons_89 : decode cX10_buttons 89 = .ok (.getfield 72, 3) := by decide +kernel
theorem dX10_buttons_92 : decode cX10_buttons 92 = .ok (.iload 6, 2) := by decide +kernel
theorem dX10_buttons_94 : decode cX10_buttons 94 = .ok (.iload_n 2, 1) := by decide +kernel
theorem dX10_buttons_95 : decode cX10_buttons 95 = .ok (.iload_n 3, 1) := by decide +kernel
theorem dX10_buttons_96 : decode cX10_buttons 96 = .ok (.iload 4, 2) := by decide +kernel
theorem dX10_buttons_98 : decode cX10_buttons 98 = .ok (.invokevirtual 220, 3) := by decide +kernel
theorem dX10_buttons_101 : decode cX10_buttons 101 = .ok (.iadd, 1) := by decide +kernel
theorem dX10_buttons_102 : decode cX10_buttons 102 = .ok (.istore 5, 2) := by decide +kernel
theorem dX10_buttons_104 : decode cX10_buttons 104 = .ok (.iinc 6 1, 3) := by decide +kernel
theorem dX10_buttons_107 : decode cX10_buttons 107 = .ok (.goto (-33), 3) := by decide +kernel
theorem dX10_buttons_110 : decode cX10_buttons 110 = .ok (.iload 5, 2) := by decide +kernel
theorem dX10_buttons_112 : decode cX10_buttons 112 = .ok (.ireturn, 1) := by decide +kernel
set_option maxRecDepth 20000 in
theorem ggX10_tell_X10_isName : GoodIn wsX10_tell wsX10_isName := goodIn_r _ [5, 6, 7, 4, 8] (by decide +kernel) (by decide +kernel)
set_option maxRecDepth 20000 in
theorem gX10_tell_X10_isName : GoodIn wsX10_tell (va_wsS RX10 224 yX10_isName wsX10_isName) := goodIn_app (goodIn_of _ (by decide +kernel)) ggX10_tell_X10_isName
set_option maxRecDepth 20000 in
theorem ggX10_tell_X10_within : GoodIn wsX10_tell wsX10_within := goodIn_r _ [8] (by decide +kernel) (by decide +kernel)
set_option maxRecDepth 20000 in
theorem gX10_tell_X10_within : GoodIn wsX10_tell (va_wsS RX10 103 yX10_within wsX10_within) := goodIn_app (goodIn_of _ (by decide +kernel)) ggX10_tell_X10_within
set_option maxRecDepth 20000 in
theorem ggX10_tell_X5_toldOf : GoodIn wsX10_tell wsX5_toldOf := goodIn_r _ [13, 14, 32, 33, 34] (by decide +kernel) (by decide +kernel)
set_option maxRecDepth 20000 in
theorem gX10_tell_X5_toldOf : GoodIn wsX10_tell (wsV RX10 227 RX5 yX5_toldOf wsX5_toldOf) := goodIn_app (goodIn_of _ (by decide +kernel)) ggX10_tell_X5_toldOf
set_option maxRecDepth 20000 in
theorem ggX10_tell_X5_setTold : GoodIn wsX10_tell wsX5_setTold := goodIn_r _ [18, 14, 32, 33, 34] (by decide +kernel) (by decide +kernel)
set_option maxRecDepth 20000 in
theorem gX10_tell_X5_setTold : GoodIn wsX10_tell (wsV RX10 230 RX5 yX5_setTold wsX5_setTold) := goodIn_app (goodIn_of _ (by decide +kernel)) ggX10_tell_X5_setTold
theorem dX10_tell_0 : decode cX10_tell 0 = .ok (.iload_n 1, 1) := by decide +kernel
theorem dX10_tell_1 : decode cX10_tell 1 = .ok (.invokestatic 224, 3) := by decide +kernel
theorem dX10_tell_4 : decode cX10_tell 4 = .ok (.ifCond .eq 24, 3) := by decide +kernel
theorem dX10_tell_7 : decode cX10_tell 7 = .ok (.iload_n 2, 1) := by decide +kernel
theorem dX10_tell_8 : decode cX10_tell 8 = .ok (.iconst 0, 1) := by decide +kernel
theorem dX10_tell_9 : decode cX10_tell 9 = .ok (.bipush 23, 2) := by decide +kernel
theorem dX10_tell_11 : decode cX10_tell 11 = .ok (.invokestatic 103, 3) := by decide +kernel
theorem dX10_tell_14 : decode cX10_tell 14 = .ok (.ifCond .eq 14, 3) := by decide +kernel
theorem dX10_tell_17 : decode cX10_tell 17 = .ok (.iload_n 3, 1) := by decide +kernel
theorem dX10_tell_18 : decode cX10_tell 18 = .ok (.bipush (-21), 2) := by decide +kernel
theorem dX10_tell_20 : decode cX10_tell 20 = .ok (.bipush 20, 2) := by decide +kernel
theorem dX10_tell_22 : decode cX10_tell 22 = .ok (.invokestatic 103, 3) := by decide +kernel
theorem dX10_tell_25 : decode cX10_tell 25 = .ok (.ifCond .ne 6, 3) := by decide +kernel
theorem dX10_tell_28 : decode cX10_tell 28 = .ok (.bipush (-22), 2) := by decide +kernel
theorem dX10_tell_30 : decode cX10_tell 30 = .ok (.ireturn, 1) := by decide +kernel
theorem dX10_tell_31 : decode cX10_tell 31 = .ok (.aload_n 0, 1) := by decide +kernel
theorem dX10_tell_32 : decode cX10_tell 32 = .ok (.getfield 63, 3) := by decide +kernel
theorem dX10_tell_35 : decode cX10_tell 35 = .ok (.iload_n 1, 1) := by decide +kernel
theorem dX10_tell_36 : decode cX10_tell 36 = .ok (.iload_n 2, 1) := by decide +kernel
theorem dX10_tell_37 : decode cX10_tell 37 = .ok (.invokevirtual 227, 3) := by decide +kernel
theorem dX10_tell_40 : decode cX10_tell 40 = .ok (.istore 4, 2) := by decide +kernel
theorem dX10_tell_42 : decode cX10_tell 42 = .ok (.aload_n 0, 1) := by decide +kernel
theorem dX10_tell_43 : decode cX10_tell 43 = .ok (.getfield 63, 3) := by decide +kernel
theorem dX10_tell_46 : decode cX10_tell 46 = .ok (.iload_n 1, 1) := by decide +kernel
theorem dX10_tell_47 : decode cX10_tell 47 = .ok (.iload_n 2, 1) := by decide +kernel
theorem dX10_tell_48 : decode cX10_tell 48 = .ok (.iload_n 3, 1) := by decide +kernel
theorem dX10_tell_49 : decode cX10_tell 49 = .ok (.invokevirtual 230, 3) := by decide +kernel
theorem dX10_tell_52 : decode cX10_tell 52 = .ok (.iload 4, 2) := by decide +kernel
theorem dX10_tell_54 : decode cX10_tell 54 = .ok (.ireturn, 1) := by decide +kernel
set_option maxRecDepth 20000 in
theorem ggX10_same_X10_isName : GoodIn wsX10_same wsX10_isName := goodIn_r _ [5, 6, 7, 4, 8] (by decide +kernel) (by decide +kernel)
set_option maxRecDepth 20000 in
theorem gX10_same_X10_isName : GoodIn wsX10_same (va_wsS RX10 224 yX10_isName wsX10_isName) := goodIn_app (goodIn_of _ (by decide +kernel)) ggX10_same_X10_isName
set_option maxRecDepth 20000 in
theorem ggX10_same_X10_within : GoodIn wsX10_same wsX10_within := goodIn_r _ [8] (by decide +kernel) (by decide +kernel)
set_option maxRecDepth 20000 in
theorem gX10_same_X10_within : GoodIn wsX10_same (va_wsS RX10 103 yX10_within wsX10_within) := goodIn_app (goodIn_of _ (by decide +kernel)) ggX10_same_X10_within
set_option maxRecDepth 20000 in
theorem ggX10_same_X9_alike : GoodIn wsX10_same wsX9_alike := goodIn_r _ [13, 14, 15, 16, 17, 18, 19, 20, 21, 22, 23, 24, 25, 26, 27, 28, 29, 30, 31, 32, 4, 33, 34, 35, 36, 12, 37, 51, 52, 53, 54, 55, 56, 57, 58] (by decide +kernel) (by decide +kernel)
set_option maxRecDepth 20000 in
theorem gX10_same_X9_alike : GoodIn wsX10_same (wsV RX10 234 RX9 yX9_alike wsX9_alike) := goodIn_app (goodIn_of _ (by decide +kernel)) ggX10_same_X9_alike
theorem dX10_same_0 : decode cX10_same 0 = .ok (.iload_n 1, 1) := by decide +kernel
theorem dX10_same_1 : decode cX10_same 1 = .ok (.invokestatic 224, 3) := by decide +kernel
theorem dX10_same_4 : decode cX10_same 4 = .ok (.ifCond .eq 24, 3) := by decide +kernel
theorem dX10_same_7 : decode cX10_same 7 = .ok (.iload_n 2, 1) := by decide +kernel
theorem dX10_same_8 : decode cX10_same 8 = .ok (.invokestatic 224, 3) := by decide +kernel
theorem dX10_same_11 : decode cX10_same 11 = .ok (.ifCond .eq 17, 3) := by decide +kernel
theorem dX10_same_14 : decode cX10_same 14 = .ok (.iload_n 1, 1) := by decide +kernel
theorem dX10_same_15 : decode cX10_same 15 = .ok (.iload_n 2, 1) := by decide +kernel
theorem dX10_same_16 : decode cX10_same 16 = .ok (.if_icmp .eq 12, 3) := by decide +kernel
theorem dX10_same_19 : decode cX10_same 19 = .ok (.iload_n 3, 1) := by decide +kernel
theorem dX10_same_20 : decode cX10_same 20 = .ok (.iconst 0, 1) := by decide +kernel
theorem dX10_same_21 : decode cX10_same 21 = .ok (.iconst 2, 1) := by decide +kernel
theorem dX10_same_22 : decode cX10_same 22 = .ok (.invokestatic 103, 3) := by decide +kernel
theorem dX10_same_25 : decode cX10_same 25 = .ok (.ifCond .ne 5, 3) := by decide +kernel
theorem dX10_same_28 : decode cX10_same 28 = .ok (.iconst (-1), 1) := by decide +kernel
theorem dX10_same_29 : decode cX10_same 29 = .ok (.ireturn, 1) := by decide +kernel
theorem dX10_same_30 : decode cX10_same 30 = .ok (.aload_n 0, 1) := by decide +kernel
theorem dX10_same_31 : decode cX10_same 31 = .ok (.getfield 81, 3) := by decide +kernel
theorem dX10_same_34 : decode cX10_same 34 = .ok (.iload_n 1, 1) := by decide +kernel
theorem dX10_same_35 : decode cX10_same 35 = .ok (.iload_n 2, 1) := by decide +kernel
theorem dX10_same_36 : decode cX10_same 36 = .ok (.iload_n 3, 1) := by decide +kernel
theorem dX10_same_37 : decode cX10_same 37 = .ok (.invokevirtual 234, 3) := by decide +kernel
theorem dX10_same_40 : decode cX10_same 40 = .ok (.ireturn, 1) := by decide +kernel
set_option maxRecDepth 20000 in
theorem ggX10_lean_X10_isName : GoodIn wsX10_lean wsX10_isName := goodIn_r _ [6, 7, 8, 5, 9] (by decide +kernel) (by decide +kernel)
set_option maxRecDepth 20000 in
theorem gX10_lean_X10_isName : GoodIn wsX10_lean (va_wsS RX10 224 yX10_isName wsX10_isName) := goodIn_app (goodIn_of _ (by decide +kernel)) ggX10_lean_X10_isName
set_option maxRecDepth 20000 in
theorem ggX10_lean_X10_within : GoodIn wsX10_lean wsX10_within := goodIn_r _ [9] (by decide +kernel) (by decide +kernel)
set_option maxRecDepth 20000 in
theorem gX10_lean_X10_within : GoodIn wsX10_lean (va_wsS RX10 103 yX10_within wsX10_within) := goodIn_app (goodIn_of _ (by decide +kernel)) ggX10_lean_X10_within
set_option maxRecDepth 20000 in
theorem ggX10_lean_X9_leaning : GoodIn wsX10_lean wsX9_leaning := goodIn_r _ [14, 15, 16, 17, 18, 19, 13, 20, 21, 22, 23, 24, 25, 26, 27, 28, 29, 30, 31, 32, 33, 34, 35, 36, 37, 38, 39, 40, 54, 55, 56, 57, 58, 59, 60, 61] (by decide +kernel) (by decide +kernel)
set_option maxRecDepth 20000 in
theorem gX10_lean_X9_leaning : GoodIn wsX10_lean (wsV RX10 237 RX9 yX9_leaning wsX9_leaning) := goodIn_app (goodIn_of _ (by decide +kernel)) ggX10_lean_X9_leaning
theorem dX10_lean_0 : decode cX10_lean 0 = .ok (.iload_n 1, 1) := by decide +kernel
theorem dX10_lean_1 : decode cX10_lean 1 = .ok (.invokestatic 224, 3) := by decide +kernel
theorem dX10_lean_4 : decode cX10_lean 4 = .ok (.ifCond .eq 24, 3) := by decide +kernel
theorem dX10_lean_7 : decode cX10_lean 7 = .ok (.iload_n 2, 1) := by decide +kernel
theorem dX10_lean_8 : decode cX10_lean 8 = .ok (.iconst 0, 1) := by decide +kernel
theorem dX10_lean_9 : decode cX10_lean 9 = .ok (.iconst 1, 1) := by decide +kernel
theorem dX10_lean_10 : decode cX10_lean 10 = .ok (.invokestatic 103, 3) := by decide +kernel
theorem dX10_lean_13 : decode cX10_lean 13 = .ok (.ifCond .eq 15, 3) := by decide +kernel
theorem dX10_lean_16 : decode cX10_lean 16 = .ok (.aload_n 0, 1) := by decide +kernel
theorem dX10_lean_17 : decode cX10_lean 17 = .ok (.getfield 81, 3) := by decide +kernel
theorem dX10_lean_20 : decode cX10_lean 20 = .ok (.iload_n 1, 1) := by decide +kernel
theorem dX10_lean_21 : decode cX10_lean 21 = .ok (.iload_n 2, 1) := by decide +kernel
theorem dX10_lean_22 : decode cX10_lean 22 = .ok (.invokevirtual 237, 3) := by decide +kernel
theorem dX10_lean_25 : decode cX10_lean 25 = .ok (.goto 5, 3) := by decide +kernel
theorem dX10_lean_28 : decode cX10_lean 28 = .ok (.ldc 157, 2) := by decide +kernel
theorem dX10_lean_30 : decode cX10_lean 30 = .ok (.ireturn, 1) := by decide +kernel
set_option maxRecDepth 20000 in
theorem ggX10_unlike_X10_isName : GoodIn wsX10_unlike wsX10_isName := goodIn_r _ [5, 6, 7, 4, 8] (by decide +kernel) (by decide +kernel)
set_option maxRecDepth 20000 in
theorem gX10_unlike_X10_isName : GoodIn wsX10_unlike (va_wsS RX10 224 yX10_isName wsX10_isName) := goodIn_app (goodIn_of _ (by decide +kernel)) ggX10_unlike_X10_isName
set_option maxRecDepth 20000 in
theorem ggX10_unlike_X9_farthestNight : GoodIn wsX10_unlike wsX9_farthestNight := goodIn_r _ [13, 14, 15, 16, 17, 18, 19, 20, 21, 22, 23, 12, 24, 25, 26, 27, 28, 29, 30, 31, 32, 33, 34, 35, 36, 37, 38, 39, 53, 54, 55, 56, 57, 58, 59, 60] (by decide +kernel) (by decide +kernel)
set_option maxRecDepth 20000 in
theorem gX10_unlike_X9_farthestNight : GoodIn wsX10_unlike (wsV RX10 240 RX9 yX9_farthestNight wsX9_farthestNight) := goodIn_app (goodIn_of _ (by decide +kernel)) ggX10_unlike_X9_farthestNight
theorem dX10_unlike_0 : decode cX10_unlike 0 = .ok (.iload_n 1, 1) := by decide +kernel
theorem dX10_unlike_1 : decode cX10_unlike 1 = .ok (.invokestatic 224, 3) := by decide +kernel
theorem dX10_unlike_4 : decode cX10_unlike 4 = .ok (.ifCond .eq 14, 3) := by decide +kernel
theorem dX10_unlike_7 : decode cX10_unlike 7 = .ok (.aload_n 0, 1) := by decide +kernel
theorem dX10_unlike_8 : decode cX10_unlike 8 = .ok (.getfield 81, 3) := by decide +kernel
theorem dX10_unlike_11 : decode cX10_unlike 11 = .ok (.iload_n 1, 1) := by decide +kernel
theorem dX10_unlike_12 : decode cX10_unlike 12 = .ok (.invokevirtual 240, 3) := by decide +kernel
theorem dX10_unlike_15 : decode cX10_unlike 15 = .ok (.goto 4, 3) := by decide +kernel
theorem dX10_unlike_18 : decode cX10_unlike 18 = .ok (.iconst (-1), 1) := by decide +kernel
theorem dX10_unlike_19 : decode cX10_unlike 19 = .ok (.ireturn, 1) := by decide +kernel
set_option maxRecDepth 20000 in
theorem ggX10_added_X10_within : GoodIn wsX10_added wsX10_within := goodIn_r _ [5] (by decide +kernel) (by decide +kernel)
set_option maxRecDepth 20000 in
theorem gX10_added_X10_within : GoodIn wsX10_added (va_wsS RX10 103 yX10_within wsX10_within) := goodIn_app (goodIn_of _ (by decide +kernel)) ggX10_added_X10_within
set_option maxRecDepth 20000 in
theorem ggX10_added_X10_isCorner : GoodIn wsX10_added wsX10_isCorner := goodIn_r _ [8, 2, 3, 4, 5] (by decide +kernel) (by decide +kernel)
set_option maxRecDepth 20000 in
theorem gX10_added_X10_isCorner : GoodIn wsX10_added (va_wsS RX10 146 yX10_isCorner wsX10_isCorner) := goodIn_app (goodIn_of _ (by decide +kernel)) ggX10_added_X10_isCorner
set_option maxRecDepth 20000 in
theorem ggX10_added_X10_isToldSum : GoodIn wsX10_added wsX10_isToldSum := goodIn_r _ [11, 2, 3, 4, 5] (by decide +kernel) (by decide +kernel)
set_option maxRecDepth 20000 in
theorem gX10_added_X10_isToldSum : GoodIn wsX10_added (va_wsS RX10 243 yX10_isToldSum wsX10_isToldSum) := goodIn_app (goodIn_of _ (by decide +kernel)) ggX10_added_X10_isToldSum
set_option maxRecDepth 20000 in
theorem ggX10_added_X1_pointsBy : GoodIn wsX10_added wsX1_pointsBy := goodIn_r _ [16, 17, 18, 19, 20, 21, 22, 23, 24, 25, 26, 27, 28, 29, 30, 31, 15, 32, 33, 34, 35, 36, 37, 38, 4, 39, 40, 41, 42, 43, 44, 45, 46, 47, 48, 49, 50, 51, 52, 53, 54, 55, 56, 57, 58, 59, 60, 61, 62, 63, 64, 65, 66, 67, 81, 82, 83, 84, 85, 86, 87, 88, 89, 90, 91, 92, 93, 94, 95] (by decide +kernel) (by decide +kernel)
set_option maxRecDepth 20000 in
theorem gX10_added_X1_pointsBy : GoodIn wsX10_added (wsV RX10 173 RX1 yX1_pointsBy wsX1_pointsBy) := goodIn_app (goodIn_of _ (by decide +kernel)) ggX10_added_X1_pointsBy
theorem dX10_added_0 : decode cX10_added 0 = .ok (.iload_n 1, 1) := by decide +kernel
theorem dX10_added_1 : decode cX10_added 1 = .ok (.iconst 0, 1) := by decide +kernel
theorem dX10_added_2 : decode cX10_added 2 = .ok (.iconst 2, 1) := by decide +kernel
theorem dX10_added_3 : decode cX10_added 3 = .ok (.invokestatic 103, 3) := by decide +kernel
theorem dX10_added_6 : decode cX10_added 6 = .ok (.ifCond .eq 10, 3) := by decide +kernel
theorem dX10_added_9 : decode cX10_added 9 = .ok (.iload_n 2, 1) := by decide +kernel
theorem dX10_added_10 : decode cX10_added 10 = .ok (.invokestatic 146, 3) := by decide +kernel
theorem dX10_added_13 : decode cX10_added 13 = .ok (.ifCond .ne 5, 3) := by decide +kernel
theorem dX10_added_16 : decode cX10_added 16 = .ok (.iconst (-1), 1) := by decide +kernel
theorem dX10_added_17 : decode cX10_added 17 = .ok (.ireturn, 1) := by decide +kernel
theorem dX10_added_18 : decode cX10_added 18 = .ok (.iload_n 3, 1) := by decide +kernel
theorem dX10_added_19 : decode cX10_added 19 = .ok (.invokestatic 243, 3) := by decide +kernel
theorem dX10_added_22 : decode cX10_added 22 = .ok (.ifCond .eq 19, 3) := by decide +kernel
theorem dX10_added_25 : decode cX10_added 25 = .ok (.iload 4, 2) := by decide +kernel
theorem dX10_added_27 : decode cX10_added 27 = .ok (.invokestatic 243, 3) := by decide +kernel
theorem dX10_added_30 : decode cX10_added 30 = .ok (.ifCond .eq 11, 3) := by decide +kernel
theorem dX10_added_33 : decode cX10_added 33 = .ok (.iload 5, 2) := by decide +kernel
theorem dX10_added_35 : decode cX10_added 35 = .ok (.invokestatic 243, 3) := by decide +kernel
theorem dX10_added_38 : decode cX10_added 38 = .ok (.ifCond .ne 5, 3) := by decide +kernel
theorem dX10_added_41 : decode cX10_added 41 = .ok (.iconst (-1), 1) := by decide +kernel
theorem dX10_added_42 : decode cX10_added 42 = .ok (.ireturn, 1) := by decide +kernel
theorem dX10_added_43 : decode cX10_added 43 = .ok (.aload_n 0, 1) := by decide +kernel
theorem dX10_added_44 : decode cX10_added 44 = .ok (.getfield 40, 3) := by decide +kernel
theorem dX10_added_47 : decode cX10_added 47 = .ok (.iload_n 1, 1) := by decide +kernel
theorem dX10_added_48 : decode cX10_added 48 = .ok (.iconst 0, 1) := by decide +kernel
theorem dX10_added_49 : decode cX10_added 49 = .ok (.iload_n 2, 1) := by decide +kernel
theorem dX10_added_50 : decode cX10_added 50 = .ok (.invokevirtual 173, 3) := by decide +kernel
theorem dX10_added_53 : decode cX10_added 53 = .ok (.iload_n 3, 1) := by decide +kernel
theorem dX10_added_54 : decode cX10_added 54 = .ok (.if_icmp .eq 5, 3) := by decide +kernel
theorem dX10_added_57 : decode cX10_added 57 = .ok (.iconst 0, 1) := by decide +kernel
theorem dX10_added_58 : decode cX10_added 58 = .ok (.ireturn, 1) := by decide +kernel
theorem dX10_added_59 : decode cX10_added 59 = .ok (.aload_n 0, 1) := by decide +kernel
theorem dX10_added_60 : decode cX10_added 60 = .ok (.getfield 40, 3) := by decide +kernel
theorem dX10_added_63 : decode cX10_added 63 = .ok (.iload_n 1, 1) := by decide +kernel
theorem dX10_added_64 : decode cX10_added 64 = .ok (.iconst 1, 1) := by decide +kernel
theorem dX10_added_65 : decode cX10_added 65 = .ok (.iload_n 2, 1) := by decide +kernel
theorem dX10_added_66 : decode cX10_added 66 = .ok (.invokevirtual 173, 3) := by decide +kernel
theorem dX10_added_69 : decode cX10_added 69 = .ok (.iload 4, 2) := by decide +kernel
theorem dX10_added_71 : decode cX10_added 71 = .ok (.if_icmp .eq 5, 3) := by decide +kernel
theorem dX10_added_74 : decode cX10_added 74 = .ok (.iconst 1, 1) := by decide +kernel
theorem dX10_added_75 : decode cX10_added 75 = .ok (.ireturn, 1) := by decide +kernel
theorem dX10_added_76 : decode cX10_added 76 = .ok (.aload_n 0, 1) := by decide +kernel
theorem dX10_added_77 : decode cX10_added 77 = .ok (.getfield 40, 3) := by decide +kernel
theorem dX10_added_80 : decode cX10_added 80 = .ok (.iload_n 1, 1) := by decide +kernel
theorem dX10_added_81 : decode cX10_added 81 = .ok (.iconst 2, 1) := by decide +kernel
theorem dX10_added_82 : decode cX10_added 82 = .ok (.iload_n 2, 1) := by decide +kernel
theorem dX10_added_83 : decode cX10_added 83 = .ok (.invokevirtual 173, 3) := by decide +kernel
theorem dX10_added_86 : decode cX10_added 86 = .ok (.iload 5, 2) := by decide +kernel
theorem dX10_added_88 : decode cX10_added 88 = .ok (.if_icmp .eq 7, 3) := by decide +kernel
theorem dX10_added_91 : decode cX10_added 91 = .ok (.iconst 2, 1) := by decide +kernel
theorem dX10_added_92 : decode cX10_added 92 = .ok (.goto 5, 3) := by decide +kernel
theorem dX10_added_95 : decode cX10_added 95 = .ok (.bipush (-4), 2) := by decide +kernel
theorem dX10_added_97 : decode cX10_added 97 = .ok (.ireturn, 1) := by decide +kernel
set_option maxRecDepth 20000 in
theorem ggX10_tenths_X10_within : GoodIn wsX10_tenths wsX10_within := goodIn_r _ [5] (by decide +kernel) (by decide +kernel)
set_option maxRecDepth 20000 in
theorem gX10_tenths_X10_within : GoodIn wsX10_tenths (va_wsS RX10 103 yX10_within wsX10_within) := goodIn_app (goodIn_of _ (by decide +kernel)) ggX10_tenths_X10_within
set_option maxRecDepth 20000 in
theorem ggX10_tenths_X5_tenthsOf : GoodIn wsX10_tenths wsX5_tenthsOf := goodIn_r _ [10, 11, 29, 30, 31] (by decide +kernel) (by decide +kernel)
set_option maxRecDepth 20000 in
theorem gX10_tenths_X5_tenthsOf : GoodIn wsX10_tenths (wsV RX10 246 RX5 yX5_tenthsOf wsX5_tenthsOf) := goodIn_app (goodIn_of _ (by decide +kernel)) ggX10_tenths_X5_tenthsOf
set_option maxRecDepth 20000 in
theorem ggX10_tenths_X5_setTenths : GoodIn wsX10_tenths wsX5_setTenths := goodIn_r _ [15, 11, 29, 30, 31] (by decide +kernel) (by decide +kernel)
set_option maxRecDepth 20000 in
theorem gX10_tenths_X5_setTenths : GoodIn wsX10_tenths (wsV RX10 249 RX5 yX5_setTenths wsX5_setTenths) := goodIn_app (goodIn_of _ (by decide +kernel)) ggX10_tenths_X5_setTenths
theorem dX10_tenths_0 : decode cX10_tenths 0 = .ok (.iload_n 1, 1) := by decide +kernel
theorem dX10_tenths_1 : decode cX10_tenths 1 = .ok (.iconst 0, 1) := by decide +kernel
theorem dX10_tenths_2 : decode cX10_tenths 2 = .ok (.iconst 1, 1) := by decide +kernel
theorem dX10_tenths_3 : decode cX10_tenths 3 = .ok (.invokestatic 103, 3) := by decide +kernel
theorem dX10_tenths_6 : decode cX10_tenths 6 = .ok (.ifCond .eq 22, 3) := by decide +kernel
theorem dX10_tenths_9 : decode cX10_tenths 9 = .ok (.iload_n 2, 1) := by decide +kernel
theorem dX10_tenths_10 : decode cX10_tenths 10 = .ok (.iconst 0, 1) := by decide +kernel
theorem dX10_tenths_11 : decode cX10_tenths 11 = .ok (.iconst 1, 1) := by decide +kernel
theorem dX10_tenths_12 : decode cX10_tenths 12 = .ok (.invokestatic 103, 3) := by decide +kernel
theorem dX10_tenths_15 : decode cX10_tenths 15 = .ok (.ifCond .eq 13, 3) := by decide +kernel
theorem dX10_tenths_18 : decode cX10_tenths 18 = .ok (.iload_n 3, 1) := by decide +kernel
theorem dX10_tenths_19 : decode cX10_tenths 19 = .ok (.iconst 0, 1) := by decide +kernel
theorem dX10_tenths_20 : decode cX10_tenths 20 = .ok (.bipush 10, 2) := by decide +kernel
theorem dX10_tenths_22 : decode cX10_tenths 22 = .ok (.invokestatic 103, 3) := by decide +kernel
theorem dX10_tenths_25 : decode cX10_tenths 25 = .ok (.ifCond .ne 5, 3) := by decide +kernel
theorem dX10_tenths_28 : decode cX10_tenths 28 = .ok (.iconst (-1), 1) := by decide +kernel
theorem dX10_tenths_29 : decode cX10_tenths 29 = .ok (.ireturn, 1) := by decide +kernel
theorem dX10_tenths_30 : decode cX10_tenths 30 = .ok (.aload_n 0, 1) := by decide +kernel
theorem dX10_tenths_31 : decode cX10_tenths 31 = .ok (.getfield 63, 3) := by decide +kernel
theorem dX10_tenths_34 : decode cX10_tenths 34 = .ok (.iload_n 1, 1) := by decide +kernel
theorem dX10_tenths_35 : decode cX10_tenths 35 = .ok (.iload_n 2, 1) := by decide +kernel
theorem dX10_tenths_36 : decode cX10_tenths 36 = .ok (.invokevirtual 246, 3) := by decide +kernel
theorem dX10_tenths_39 : decode cX10_tenths 39 = .ok (.istore 4, 2) := by decide +kernel
theorem dX10_tenths_41 : decode cX10_tenths 41 = .ok (.aload_n 0, 1) := by decide +kernel
theorem dX10_tenths_42 : decode cX10_tenths 42 = .ok (.getfield 63, 3) := by decide +kernel
theorem dX10_tenths_45 : decode cX10_tenths 45 = .ok (.iload_n 1, 1) := by decide +kernel
theorem dX10_tenths_46 : decode cX10_tenths 46 = .ok (.iload_n 2, 1) := by decide +kernel
theorem dX10_tenths_47 : decode cX10_tenths 47 = .ok (.iload_n 3, 1) := by decide +kernel
theorem dX10_tenths_48 : decode cX10_tenths 48 = .ok (.invokevirtual 249, 3) := by decide +kernel
theorem dX10_tenths_51 : decode cX10_tenths 51 = .ok (.iload 4, 2) := by decide +kernel
theorem dX10_tenths_53 : decode cX10_tenths 53 = .ok (.ireturn, 1) := by decide +kernel
set_option maxRecDepth 20000 in
theorem ggX10_open_X10_isGame : GoodIn wsX10_open wsX10_isGame := goodIn_r _ [5, 6, 7, 4, 8] (by decide +kernel) (by decide +kernel)
set_option maxRecDepth 20000 in
theorem gX10_open_X10_isGame : GoodIn wsX10_open (va_wsS RX10 252 yX10_isGame wsX10_isGame) := goodIn_app (goodIn_of _ (by decide +kernel)) ggX10_open_X10_isGame
set_option maxRecDepth 20000 in
theorem ggX10_open_X4_playOpen : GoodIn wsX10_open wsX4_playOpen := goodIn_r _ [13, 14, 15, 16, 17, 18, 19, 12, 20, 21, 22, 23, 24, 25, 26, 27, 28, 29, 30, 31, 32, 33, 34, 35, 36, 37, 38, 39, 40, 41, 42, 43, 44, 45, 46, 47, 48, 49, 50, 51, 52, 53, 54, 72, 73, 74, 75, 76, 77, 78, 79, 80] (by decide +kernel) (by decide +kernel)
set_option maxRecDepth 20000 in
theorem gX10_open_X4_playOpen : GoodIn wsX10_open (wsV RX10 255 RX4 yX4_playOpen wsX4_playOpen) := goodIn_app (goodIn_of _ (by decide +kernel)) ggX10_open_X4_playOpen
set_option maxRecDepth 20000 in
theorem ggX10_open_X4_result : GoodIn wsX10_open wsX4_result := goodIn_r _ [58, 16, 50, 28, 72, 73, 74, 75, 76, 77] (by decide +kernel) (by decide +kernel)
set_option maxRecDepth 20000 in
theorem gX10_open_X4_result : GoodIn wsX10_open (wsV RX10 259 RX4 yX4_result wsX4_result) := goodIn_app (goodIn_of _ (by decide +kernel)) ggX10_open_X4_result
theorem dX10_open_0 : decode cX10_open 0 = .ok (.iload_n 1, 1) := by decide +kernel
theorem dX10_open_1 : decode cX10_open 1 = .ok (.iload_n 2, 1) := by decide +kernel
theorem dX10_open_2 : decode cX10_open 2 = .ok (.iload_n 3, 1) := by decide +kernel
theorem dX10_open_3 : decode cX10_open 3 = .ok (.invokestatic 252, 3) := by decide +kernel
theorem dX10_open_6 : decode cX10_open 6 = .ok (.ifCond .ne 5, 3) := by decide +kernel
theorem dX10_open_9 : decode cX10_open 9 = .ok (.iconst (-1), 1) := by decide +kernel
theorem dX10_open_10 : decode cX10_open 10 = .ok (.ireturn, 1) := by decide +kernel
theorem dX10_open_11 : decode cX10_open 11 = .ok (.aload_n 0, 1) := by decide +kernel
theorem dX10_open_12 : decode cX10_open 12 = .ok (.getfield 88, 3) := by decide +kernel
theorem dX10_open_15 : decode cX10_open 15 = .ok (.iload_n 1, 1) := by decide +kernel
theorem dX10_open_16 : decode cX10_open 16 = .ok (.iload_n 2, 1) := by decide +kernel
theorem dX10_open_17 : decode cX10_open 17 = .ok (.invokevirtual 255, 3) := by decide +kernel
theorem dX10_open_20 : decode cX10_open 20 = .ok (.aload_n 0, 1) := by decide +kernel
theorem dX10_open_21 : decode cX10_open 21 = .ok (.getfield 88, 3) := by decide +kernel
theorem dX10_open_24 : decode cX10_open 24 = .ok (.iload_n 3, 1) := by decide +kernel
theorem dX10_open_25 : decode cX10_open 25 = .ok (.invokevirtual 259, 3) := by decide +kernel
theorem dX10_open_28 : decode cX10_open 28 = .ok (.ireturn, 1) := by decide +kernel
