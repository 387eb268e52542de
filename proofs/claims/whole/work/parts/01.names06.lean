theorem dX11_sumOf_16 : decode cX11_sumOf 16 = .ok (.iload_n 2, 1) := by decide +kernel
theorem dX11_sumOf_17 : decode cX11_sumOf 17 = .ok (.imul, 1) := by decide +kernel
theorem dX11_sumOf_18 : decode cX11_sumOf 18 = .ok (.iload_n 3, 1) := by decide +kernel
theorem dX11_sumOf_19 : decode cX11_sumOf 19 = .ok (.iadd, 1) := by decide +kernel
theorem dX11_sumOf_20 : decode cX11_sumOf 20 = .ok (.iaload, 1) := by decide +kernel
theorem dX11_sumOf_21 : decode cX11_sumOf 21 = .ok (.imul, 1) := by decide +kernel
theorem dX11_sumOf_22 : decode cX11_sumOf 22 = .ok (.istore 4, 2) := by decide +kernel
theorem dX11_sumOf_24 : decode cX11_sumOf 24 = .ok (.iconst 0, 1) := by decide +kernel
theorem dX11_sumOf_25 : decode cX11_sumOf 25 = .ok (.istore 5, 2) := by decide +kernel
theorem dX11_sumOf_27 : decode cX11_sumOf 27 = .ok (.iload 5, 2) := by decide +kernel
theorem dX11_sumOf_29 : decode cX11_sumOf 29 = .ok (.aload_n 0, 1) := by decide +kernel
theorem dX11_sumOf_30 : decode cX11_sumOf 30 = .ok (.getfield 16, 3) := by decide +kernel
theorem dX11_sumOf_33 : decode cX11_sumOf 33 = .ok (.iconst 0, 1) := by decide +kernel
theorem dX11_sumOf_34 : decode cX11_sumOf 34 = .ok (.iaload, 1) := by decide +kernel
theorem dX11_sumOf_35 : decode cX11_sumOf 35 = .ok (.if_icmp .ge 151, 3) := by decide +kernel
theorem dX11_sumOf_38 : decode cX11_sumOf 38 = .ok (.aload_n 0, 1) := by decide +kernel
theorem dX11_sumOf_39 : decode cX11_sumOf 39 = .ok (.getfield 19, 3) := by decide +kernel
theorem dX11_sumOf_42 : decode cX11_sumOf 42 = .ok (.iconst 5, 1) := by decide +kernel
theorem dX11_sumOf_43 : decode cX11_sumOf 43 = .ok (.iload 5, 2) := by decide +kernel
theorem dX11_sumOf_45 : decode cX11_sumOf 45 = .ok (.imul, 1) := by decide +kernel
theorem dX11_sumOf_46 : decode cX11_sumOf 46 = .ok (.iaload, 1) := by decide +kernel
theorem dX11_sumOf_47 : decode cX11_sumOf 47 = .ok (.iload_n 2, 1) := by decide +kernel
theorem dX11_sumOf_48 : decode cX11_sumOf 48 = .ok (.if_icmp .ne 132, 3) := by decide +kernel
theorem dX11_sumOf_51 : decode cX11_sumOf 51 = .ok (.aload_n 0, 1) := by decide +kernel
theorem dX11_sumOf_52 : decode cX11_sumOf 52 = .ok (.getfield 19, 3) := by decide +kernel
theorem dX11_sumOf_55 : decode cX11_sumOf 55 = .ok (.iconst 5, 1) := by decide +kernel
theorem dX11_sumOf_56 : decode cX11_sumOf 56 = .ok (.iload 5, 2) := by decide +kernel
theorem dX11_sumOf_58 : decode cX11_sumOf 58 = .ok (.imul, 1) := by decide +kernel
theorem dX11_sumOf_59 : decode cX11_sumOf 59 = .ok (.iconst 2, 1) := by decide +kernel
theorem dX11_sumOf_60 : decode cX11_sumOf 60 = .ok (.iadd, 1) := by decide +kernel
theorem dX11_sumOf_61 : decode cX11_sumOf 61 = .ok (.iaload, 1) := by decide +kernel
theorem dX11_sumOf_62 : decode cX11_sumOf 62 = .ok (.iload_n 3, 1) := by decide +kernel
theorem dX11_sumOf_63 : decode cX11_sumOf 63 = .ok (.if_icmp .ne 117, 3) := by decide +kernel
theorem dX11_sumOf_66 : decode cX11_sumOf 66 = .ok (.aload_n 0, 1) := by decide +kernel
theorem dX11_sumOf_67 : decode cX11_sumOf 67 = .ok (.getfield 19, 3) := by decide +kernel
theorem dX11_sumOf_70 : decode cX11_sumOf 70 = .ok (.iconst 5, 1) := by decide +kernel
theorem dX11_sumOf_71 : decode cX11_sumOf 71 = .ok (.iload 5, 2) := by decide +kernel
theorem dX11_sumOf_73 : decode cX11_sumOf 73 = .ok (.imul, 1) := by decide +kernel
theorem dX11_sumOf_74 : decode cX11_sumOf 74 = .ok (.iconst 1, 1) := by decide +kernel
theorem dX11_sumOf_75 : decode cX11_sumOf 75 = .ok (.iadd, 1) := by decide +kernel
theorem dX11_sumOf_76 : decode cX11_sumOf 76 = .ok (.iaload, 1) := by decide +kernel
theorem dX11_sumOf_77 : decode cX11_sumOf 77 = .ok (.sipush 170, 3) := by decide +kernel
theorem dX11_sumOf_80 : decode cX11_sumOf 80 = .ok (.if_icmp .lt 17, 3) := by decide +kernel
theorem dX11_sumOf_83 : decode cX11_sumOf 83 = .ok (.aload_n 0, 1) := by decide +kernel
theorem dX11_sumOf_84 : decode cX11_sumOf 84 = .ok (.getfield 40, 3) := by decide +kernel
theorem dX11_sumOf_87 : decode cX11_sumOf 87 = .ok (.bipush 7, 2) := by decide +kernel
theorem dX11_sumOf_89 : decode cX11_sumOf 89 = .ok (.iload_n 1, 1) := by decide +kernel
theorem dX11_sumOf_90 : decode cX11_sumOf 90 = .ok (.imul, 1) := by decide +kernel
theorem dX11_sumOf_91 : decode cX11_sumOf 91 = .ok (.iconst 4, 1) := by decide +kernel
theorem dX11_sumOf_92 : decode cX11_sumOf 92 = .ok (.iadd, 1) := by decide +kernel
theorem dX11_sumOf_93 : decode cX11_sumOf 93 = .ok (.iaload, 1) := by decide +kernel
theorem dX11_sumOf_94 : decode cX11_sumOf 94 = .ok (.goto 4, 3) := by decide +kernel
theorem dX11_sumOf_97 : decode cX11_sumOf 97 = .ok (.iconst 1, 1) := by decide +kernel
theorem dX11_sumOf_98 : decode cX11_sumOf 98 = .ok (.istore 6, 2) := by decide +kernel
theorem dX11_sumOf_100 : decode cX11_sumOf 100 = .ok (.aload_n 0, 1) := by decide +kernel
theorem dX11_sumOf_101 : decode cX11_sumOf 101 = .ok (.getfield 31, 3) := by decide +kernel
theorem dX11_sumOf_104 : decode cX11_sumOf 104 = .ok (.iconst 0, 1) := by decide +kernel
theorem dX11_sumOf_105 : decode cX11_sumOf 105 = .ok (.iaload, 1) := by decide +kernel
theorem dX11_sumOf_106 : decode cX11_sumOf 106 = .ok (.iload_n 3, 1) := by decide +kernel
theorem dX11_sumOf_107 : decode cX11_sumOf 107 = .ok (.if_icmp .ne 24, 3) := by decide +kernel
theorem dX11_sumOf_110 : decode cX11_sumOf 110 = .ok (.aload_n 0, 1) := by decide +kernel
theorem dX11_sumOf_111 : decode cX11_sumOf 111 = .ok (.getfield 34, 3) := by decide +kernel
theorem dX11_sumOf_114 : decode cX11_sumOf 114 = .ok (.iconst 0, 1) := by decide +kernel
theorem dX11_sumOf_115 : decode cX11_sumOf 115 = .ok (.iaload, 1) := by decide +kernel
theorem dX11_sumOf_116 : decode cX11_sumOf 116 = .ok (.aload_n 0, 1) := by decide +kernel
theorem dX11_sumOf_117 : decode cX11_sumOf 117 = .ok (.getfield 40, 3) := by decide +kernel
theorem dX11_sumOf_120 : decode cX11_sumOf 120 = .ok (.bipush 7, 2) := by decide +kernel
theorem dX11_sumOf_122 : decode cX11_sumOf 122 = .ok (.iload_n 1, 1) := by decide +kernel
theorem dX11_sumOf_123 : decode cX11_sumOf 123 = .ok (.imul, 1) := by decide +kernel
theorem dX11_sumOf_124 : decode cX11_sumOf 124 = .ok (.iconst 5, 1) := by decide +kernel
theorem dX11_sumOf_125 : decode cX11_sumOf 125 = .ok (.iadd, 1) := by decide +kernel
theorem dX11_sumOf_126 : decode cX11_sumOf 126 = .ok (.iaload, 1) := by decide +kernel
theorem dX11_sumOf_127 : decode cX11_sumOf 127 = .ok (.imul, 1) := by decide +kernel
theorem dX11_sumOf_128 : decode cX11_sumOf 128 = .ok (.goto 4, 3) := by decide +kernel
theorem dX11_sumOf_131 : decode cX11_sumOf 131 = .ok (.iconst 0, 1) := by decide +kernel
theorem dX11_sumOf_132 : decode cX11_sumOf 132 = .ok (.istore 7, 2) := by decide +kernel
theorem dX11_sumOf_134 : decode cX11_sumOf 134 = .ok (.iload 4, 2) := by decide +kernel
theorem dX11_sumOf_136 : decode cX11_sumOf 136 = .ok (.aload_n 0, 1) := by decide +kernel
theorem dX11_sumOf_137 : decode cX11_sumOf 137 = .ok (.iload_n 1, 1) := by decide +kernel
theorem dX11_sumOf_138 : decode cX11_sumOf 138 = .ok (.iload 5, 2) := by decide +kernel
theorem dX11_sumOf_140 : decode cX11_sumOf 140 = .ok (.invokevirtual 138, 3) := by decide +kernel
theorem dX11_sumOf_143 : decode cX11_sumOf 143 = .ok (.ifCond .eq 32, 3) := by decide +kernel
theorem dX11_sumOf_146 : decode cX11_sumOf 146 = .ok (.aload_n 0, 1) := by decide +kernel
theorem dX11_sumOf_147 : decode cX11_sumOf 147 = .ok (.getfield 40, 3) := by decide +kernel
theorem dX11_sumOf_150 : decode cX11_sumOf 150 = .ok (.bipush 7, 2) := by decide +kernel
theorem dX11_sumOf_152 : decode cX11_sumOf 152 = .ok (.iload_n 1, 1) := by decide +kernel
theorem dX11_sumOf_153 : decode cX11_sumOf 153 = .ok (.imul, 1) := by decide +kernel
theorem dX11_sumOf_154 : decode cX11_sumOf 154 = .ok (.iconst 1, 1) := by decide +kernel
theorem dX11_sumOf_155 : decode cX11_sumOf 155 = .ok (.iadd, 1) := by decide +kernel
theorem dX11_sumOf_156 : decode cX11_sumOf 156 = .ok (.iaload, 1) := by decide +kernel
theorem dX11_sumOf_157 : decode cX11_sumOf 157 = .ok (.aload_n 0, 1) := by decide +kernel
theorem dX11_sumOf_158 : decode cX11_sumOf 158 = .ok (.getfield 19, 3) := by decide +kernel
theorem dX11_sumOf_161 : decode cX11_sumOf 161 = .ok (.iconst 5, 1) := by decide +kernel
theorem dX11_sumOf_162 : decode cX11_sumOf 162 = .ok (.iload 5, 2) := by decide +kernel
theorem dX11_sumOf_164 : decode cX11_sumOf 164 = .ok (.imul, 1) := by decide +kernel
theorem dX11_sumOf_165 : decode cX11_sumOf 165 = .ok (.iconst 3, 1) := by decide +kernel
theorem dX11_sumOf_166 : decode cX11_sumOf 166 = .ok (.iadd, 1) := by decide +kernel
theorem dX11_sumOf_167 : decode cX11_sumOf 167 = .ok (.iaload, 1) := by decide +kernel
theorem dX11_sumOf_168 : decode cX11_sumOf 168 = .ok (.imul, 1) := by decide +kernel
theorem dX11_sumOf_169 : decode cX11_sumOf 169 = .ok (.iload 6, 2) := by decide +kernel
theorem dX11_sumOf_171 : decode cX11_sumOf 171 = .ok (.imul, 1) := by decide +kernel
theorem dX11_sumOf_172 : decode cX11_sumOf 172 = .ok (.goto 5, 3) := by decide +kernel
theorem dX11_sumOf_175 : decode cX11_sumOf 175 = .ok (.iload 7, 2) := by decide +kernel
theorem dX11_sumOf_177 : decode cX11_sumOf 177 = .ok (.iadd, 1) := by decide +kernel
theorem dX11_sumOf_178 : decode cX11_sumOf 178 = .ok (.istore 4, 2) := by decide +kernel
theorem dX11_sumOf_180 : decode cX11_sumOf 180 = .ok (.iinc 5 1, 3) := by decide +kernel
theorem dX11_sumOf_183 : decode cX11_sumOf 183 = .ok (.goto (-156), 3) := by decide +kernel
theorem dX11_sumOf_186 : decode cX11_sumOf 186 = .ok (.iload 4, 2) := by decide +kernel
theorem dX11_sumOf_188 : decode cX11_sumOf 188 = .ok (.ireturn, 1) := by decide +kernel
set_option maxRecDepth 20000 in
theorem ggX11_leadOf_X11_sumOf : GoodIn wsX11_leadOf wsX11_sumOf := goodIn_r _ [6, 1, 7, 8, 9, 10, 11, 12, 13, 14, 5, 15, 16, 17, 18, 19, 20, 21, 22, 23, 24, 25, 26, 27, 28, 29, 30, 31, 32, 33, 34, 35, 36, 37, 38, 39, 40, 41, 42] (by decide +kernel) (by decide +kernel)
set_option maxRecDepth 20000 in
theorem gX11_leadOf_X11_sumOf : GoodIn wsX11_leadOf (wsV RX11 141 RX11 yX11_sumOf wsX11_sumOf) := goodIn_app (goodIn_of _ (by decide +kernel)) ggX11_leadOf_X11_sumOf
theorem dX11_leadOf_0 : decode cX11_leadOf 0 = .ok (.aload_n 0, 1) := by decide +kernel
theorem dX11_leadOf_1 : decode cX11_leadOf 1 = .ok (.iload_n 1, 1) := by decide +kernel
theorem dX11_leadOf_2 : decode cX11_leadOf 2 = .ok (.iload_n 2, 1) := by decide +kernel
theorem dX11_leadOf_3 : decode cX11_leadOf 3 = .ok (.iconst 0, 1) := by decide +kernel
theorem dX11_leadOf_4 : decode cX11_leadOf 4 = .ok (.invokevirtual 141, 3) := by decide +kernel
theorem dX11_leadOf_7 : decode cX11_leadOf 7 = .ok (.aload_n 0, 1) := by decide +kernel
theorem dX11_leadOf_8 : decode cX11_leadOf 8 = .ok (.iload_n 1, 1) := by decide +kernel
theorem dX11_leadOf_9 : decode cX11_leadOf 9 = .ok (.iload_n 2, 1) := by decide +kernel
theorem dX11_leadOf_10 : decode cX11_leadOf 10 = .ok (.iconst 1, 1) := by decide +kernel
theorem dX11_leadOf_11 : decode cX11_leadOf 11 = .ok (.invokevirtual 141, 3) := by decide +kernel
theorem dX11_leadOf_14 : decode cX11_leadOf 14 = .ok (.isub, 1) := by decide +kernel
theorem dX11_leadOf_15 : decode cX11_leadOf 15 = .ok (.aload_n 0, 1) := by decide +kernel
theorem dX11_leadOf_16 : decode cX11_leadOf 16 = .ok (.getfield 40, 3) := by decide +kernel
theorem dX11_leadOf_19 : decode cX11_leadOf 19 = .ok (.bipush 7, 2) := by decide +kernel
theorem dX11_leadOf_21 : decode cX11_leadOf 21 = .ok (.iload_n 1, 1) := by decide +kernel
theorem dX11_leadOf_22 : decode cX11_leadOf 22 = .ok (.imul, 1) := by decide +kernel
theorem dX11_leadOf_23 : decode cX11_leadOf 23 = .ok (.iconst 3, 1) := by decide +kernel
theorem dX11_leadOf_24 : decode cX11_leadOf 24 = .ok (.iadd, 1) := by decide +kernel
theorem dX11_leadOf_25 : decode cX11_leadOf 25 = .ok (.iaload, 1) := by decide +kernel
theorem dX11_leadOf_26 : decode cX11_leadOf 26 = .ok (.iadd, 1) := by decide +kernel
theorem dX11_leadOf_27 : decode cX11_leadOf 27 = .ok (.bipush 20, 2) := by decide +kernel
theorem dX11_leadOf_29 : decode cX11_leadOf 29 = .ok (.isub, 1) := by decide +kernel
theorem dX11_leadOf_30 : decode cX11_leadOf 30 = .ok (.ireturn, 1) := by decide +kernel
set_option maxRecDepth 20000 in
theorem ggX11_isClose_X11_leadOf : GoodIn wsX11_isClose wsX11_leadOf := goodIn_r _ [6, 1, 7, 8, 9, 5, 10, 11, 12, 13, 14, 15, 16, 17, 18, 19, 20, 21, 22, 26, 27, 28, 29, 30, 31, 32, 33, 34, 35, 36, 37, 38, 39, 40, 41, 42, 43, 44, 45, 46, 47, 48, 49] (by decide +kernel) (by decide +kernel)
set_option maxRecDepth 20000 in
theorem gX11_isClose_X11_leadOf : GoodIn wsX11_isClose (wsV RX11 145 RX11 yX11_leadOf wsX11_leadOf) := goodIn_app (goodIn_of _ (by decide +kernel)) ggX11_isClose_X11_leadOf
set_option maxRecDepth 20000 in
theorem ggX11_isClose_X11_in : GoodIn wsX11_isClose wsX11_in := goodIn_r _ [25] (by decide +kernel) (by decide +kernel)
set_option maxRecDepth 20000 in
theorem gX11_isClose_X11_in : GoodIn wsX11_isClose (va_wsS RX11 80 yX11_in wsX11_in) := goodIn_app (goodIn_of _ (by decide +kernel)) ggX11_isClose_X11_in
theorem dX11_isClose_0 : decode cX11_isClose 0 = .ok (.aload_n 0, 1) := by decide +kernel
theorem dX11_isClose_1 : decode cX11_isClose 1 = .ok (.iload_n 1, 1) := by decide +kernel
theorem dX11_isClose_2 : decode cX11_isClose 2 = .ok (.iload_n 2, 1) := by decide +kernel
theorem dX11_isClose_3 : decode cX11_isClose 3 = .ok (.invokevirtual 145, 3) := by decide +kernel
theorem dX11_isClose_6 : decode cX11_isClose 6 = .ok (.istore_n 3, 1) := by decide +kernel
theorem dX11_isClose_7 : decode cX11_isClose 7 = .ok (.iload_n 3, 1) := by decide +kernel
theorem dX11_isClose_8 : decode cX11_isClose 8 = .ok (.i2l, 1) := by decide +kernel
theorem dX11_isClose_9 : decode cX11_isClose 9 = .ok (.aload_n 0, 1) := by decide +kernel
theorem dX11_isClose_10 : decode cX11_isClose 10 = .ok (.getfield 40, 3) := by decide +kernel
theorem dX11_isClose_13 : decode cX11_isClose 13 = .ok (.bipush 7, 2) := by decide +kernel
theorem dX11_isClose_15 : decode cX11_isClose 15 = .ok (.iload_n 1, 1) := by decide +kernel
theorem dX11_isClose_16 : decode cX11_isClose 16 = .ok (.imul, 1) := by decide +kernel
theorem dX11_isClose_17 : decode cX11_isClose 17 = .ok (.bipush 6, 2) := by decide +kernel
theorem dX11_isClose_19 : decode cX11_isClose 19 = .ok (.iadd, 1) := by decide +kernel
theorem dX11_isClose_20 : decode cX11_isClose 20 = .ok (.iaload, 1) := by decide +kernel
theorem dX11_isClose_21 : decode cX11_isClose 21 = .ok (.ineg, 1) := by decide +kernel
theorem dX11_isClose_22 : decode cX11_isClose 22 = .ok (.i2l, 1) := by decide +kernel
theorem dX11_isClose_23 : decode cX11_isClose 23 = .ok (.aload_n 0, 1) := by decide +kernel
theorem dX11_isClose_24 : decode cX11_isClose 24 = .ok (.getfield 40, 3) := by decide +kernel
theorem dX11_isClose_27 : decode cX11_isClose 27 = .ok (.bipush 7, 2) := by decide +kernel
theorem dX11_isClose_29 : decode cX11_isClose 29 = .ok (.iload_n 1, 1) := by decide +kernel
theorem dX11_isClose_30 : decode cX11_isClose 30 = .ok (.imul, 1) := by decide +kernel
theorem dX11_isClose_31 : decode cX11_isClose 31 = .ok (.bipush 6, 2) := by decide +kernel
theorem dX11_isClose_33 : decode cX11_isClose 33 = .ok (.iadd, 1) := by decide +kernel
theorem dX11_isClose_34 : decode cX11_isClose 34 = .ok (.iaload, 1) := by decide +kernel
theorem dX11_isClose_35 : decode cX11_isClose 35 = .ok (.i2l, 1) := by decide +kernel
theorem dX11_isClose_36 : decode cX11_isClose 36 = .ok (.invokestatic 80, 3) := by decide +kernel
theorem dX11_isClose_39 : decode cX11_isClose 39 = .ok (.ireturn, 1) := by decide +kernel
set_option maxRecDepth 20000 in
theorem ggX11_sum_X11_isJudge : GoodIn wsX11_sum wsX11_isJudge := goodIn_r _ [5, 6, 7, 8, 4, 9, 32, 33, 34, 35, 36, 37, 38, 39, 40, 41, 42, 43, 44, 45, 46, 47, 48, 49, 50, 51, 52, 53, 54, 55] (by decide +kernel) (by decide +kernel)
set_option maxRecDepth 20000 in
theorem gX11_sum_X11_isJudge : GoodIn wsX11_sum (wsV RX11 149 RX11 yX11_isJudge wsX11_isJudge) := goodIn_app (goodIn_of _ (by decide +kernel)) ggX11_sum_X11_isJudge
set_option maxRecDepth 20000 in
theorem ggX11_sum_X11_isRound : GoodIn wsX11_sum wsX11_isRound := goodIn_r _ [13, 14, 7, 8, 4, 9, 32, 33, 34, 35, 36, 37, 38, 39, 40, 41, 42, 43, 44, 45, 46, 47, 48, 49, 50, 51, 52, 53, 54, 55] (by decide +kernel) (by decide +kernel)
set_option maxRecDepth 20000 in
theorem gX11_sum_X11_isRound : GoodIn wsX11_sum (wsV RX11 152 RX11 yX11_isRound wsX11_isRound) := goodIn_app (goodIn_of _ (by decide +kernel)) ggX11_sum_X11_isRound
set_option maxRecDepth 20000 in
theorem ggX11_sum_X11_in : GoodIn wsX11_sum wsX11_in := goodIn_r _ [9] (by decide +kernel) (by decide +kernel)
set_option maxRecDepth 20000 in
theorem gX11_sum_X11_in : GoodIn wsX11_sum (va_wsS RX11 80 yX11_in wsX11_in) := goodIn_app (goodIn_of _ (by decide +kernel)) ggX11_sum_X11_in
set_option maxRecDepth 20000 in
theorem ggX11_sum_X11_sumOf : GoodIn wsX11_sum wsX11_sumOf := goodIn_r _ [18, 19, 20, 21, 22, 23, 24, 25, 26, 27, 4, 28, 29, 30, 31, 32, 33, 34, 35, 36, 37, 38, 39, 40, 41, 42, 43, 44, 45, 46, 47, 48, 49, 50, 51, 52, 53, 54, 55] (by decide +kernel) (by decide +kernel)
set_option maxRecDepth 20000 in
theorem gX11_sum_X11_sumOf : GoodIn wsX11_sum (wsV RX11 141 RX11 yX11_sumOf wsX11_sumOf) := goodIn_app (goodIn_of _ (by decide +kernel)) ggX11_sum_X11_sumOf
theorem dX11_sum_0 : decode cX11_sum 0 = .ok (.aload_n 0, 1) := by decide +kernel
theorem dX11_sum_1 : decode cX11_sum 1 = .ok (.iload_n 1, 1) := by decide +kernel
theorem dX11_sum_2 : decode cX11_sum 2 = .ok (.invokevirtual 149, 3) := by decide +kernel
theorem dX11_sum_5 : decode cX11_sum 5 = .ok (.ifCond .eq 31, 3) := by decide +kernel
theorem dX11_sum_8 : decode cX11_sum 8 = .ok (.aload_n 0, 1) := by decide +kernel
theorem dX11_sum_9 : decode cX11_sum 9 = .ok (.iload_n 2, 1) := by decide +kernel
theorem dX11_sum_10 : decode cX11_sum 10 = .ok (.invokevirtual 152, 3) := by decide +kernel
theorem dX11_sum_13 : decode cX11_sum 13 = .ok (.ifCond .eq 23, 3) := by decide +kernel
theorem dX11_sum_16 : decode cX11_sum 16 = .ok (.iload_n 3, 1) := by decide +kernel
theorem dX11_sum_17 : decode cX11_sum 17 = .ok (.i2l, 1) := by decide +kernel
theorem dX11_sum_18 : decode cX11_sum 18 = .ok (.lconst 0, 1) := by decide +kernel
theorem dX11_sum_19 : decode cX11_sum 19 = .ok (.lconst 1, 1) := by decide +kernel
theorem dX11_sum_20 : decode cX11_sum 20 = .ok (.invokestatic 80, 3) := by decide +kernel
theorem dX11_sum_23 : decode cX11_sum 23 = .ok (.ifCond .eq 13, 3) := by decide +kernel
theorem dX11_sum_26 : decode cX11_sum 26 = .ok (.aload_n 0, 1) := by decide +kernel
theorem dX11_sum_27 : decode cX11_sum 27 = .ok (.iload_n 1, 1) := by decide +kernel
theorem dX11_sum_28 : decode cX11_sum 28 = .ok (.iload_n 2, 1) := by decide +kernel
theorem dX11_sum_29 : decode cX11_sum 29 = .ok (.iload_n 3, 1) := by decide +kernel
theorem dX11_sum_30 : decode cX11_sum 30 = .ok (.invokevirtual 141, 3) := by decide +kernel
theorem dX11_sum_33 : decode cX11_sum 33 = .ok (.goto 4, 3) := by decide +kernel
theorem dX11_sum_36 : decode cX11_sum 36 = .ok (.iconst (-1), 1) := by decide +kernel
theorem dX11_sum_37 : decode cX11_sum 37 = .ok (.ireturn, 1) := by decide +kernel
set_option maxRecDepth 20000 in
theorem ggX11_lead_X11_isJudge : GoodIn wsX11_lead wsX11_isJudge := goodIn_r _ [6, 7, 8, 9, 5, 10, 37, 38, 39, 40, 41, 42, 43, 44, 45, 46, 47, 48, 49, 50, 51, 52, 53, 54, 55, 56, 57, 58, 59, 60] (by decide +kernel) (by decide +kernel)
set_option maxRecDepth 20000 in
theorem gX11_lead_X11_isJudge : GoodIn wsX11_lead (wsV RX11 149 RX11 yX11_isJudge wsX11_isJudge) := goodIn_app (goodIn_of _ (by decide +kernel)) ggX11_lead_X11_isJudge
set_option maxRecDepth 20000 in
theorem ggX11_lead_X11_isRound : GoodIn wsX11_lead wsX11_isRound := goodIn_r _ [14, 15, 8, 9, 5, 10, 37, 38, 39, 40, 41, 42, 43, 44, 45, 46, 47, 48, 49, 50, 51, 52, 53, 54, 55, 56, 57, 58, 59, 60] (by decide +kernel) (by decide +kernel)
set_option maxRecDepth 20000 in
theorem gX11_lead_X11_isRound : GoodIn wsX11_lead (wsV RX11 152 RX11 yX11_isRound wsX11_isRound) := goodIn_app (goodIn_of _ (by decide +kernel)) ggX11_lead_X11_isRound
set_option maxRecDepth 20000 in
theorem ggX11_lead_X11_leadOf : GoodIn wsX11_lead wsX11_leadOf := goodIn_r _ [19, 20, 21, 22, 23, 5, 24, 25, 26, 27, 28, 29, 30, 31, 32, 33, 34, 35, 36, 37, 38, 39, 40, 41, 42, 43, 44, 45, 46, 47, 48, 49, 50, 51, 52, 53, 54, 55, 56, 57, 58, 59, 60] (by decide +kernel) (by decide +kernel)
set_option maxRecDepth 20000 in
theorem gX11_lead_X11_leadOf : GoodIn wsX11_lead (wsV RX11 145 RX11 yX11_leadOf wsX11_leadOf) := goodIn_app (goodIn_of _ (by decide +kernel)) ggX11_lead_X11_leadOf
theorem dX11_lead_0 : decode cX11_lead 0 = .ok (.aload_n 0, 1) := by decide +kernel
theorem dX11_lead_1 : decode cX11_lead 1 = .ok (.iload_n 1, 1) := by decide +kernel
theorem dX11_lead_2 : decode cX11_lead 2 = .ok (.invokevirtual 149, 3) := by decide +kernel
theorem dX11_lead_5 : decode cX11_lead 5 = .ok (.ifCond .eq 20, 3) := by decide +kernel
theorem dX11_lead_8 : decode cX11_lead 8 = .ok (.aload_n 0, 1) := by decide +kernel
theorem dX11_lead_9 : decode cX11_lead 9 = .ok (.iload_n 2, 1) := by decide +kernel
theorem dX11_lead_10 : decode cX11_lead 10 = .ok (.invokevirtual 152, 3) := by decide +kernel
theorem dX11_lead_13 : decode cX11_lead 13 = .ok (.ifCond .eq 12, 3) := by decide +kernel
theorem dX11_lead_16 : decode cX11_lead 16 = .ok (.aload_n 0, 1) := by decide +kernel
theorem dX11_lead_17 : decode cX11_lead 17 = .ok (.iload_n 1, 1) := by decide +kernel
theorem dX11_lead_18 : decode cX11_lead 18 = .ok (.iload_n 2, 1) := by decide +kernel
theorem dX11_lead_19 : decode cX11_lead 19 = .ok (.invokevirtual 145, 3) := by decide +kernel
theorem dX11_lead_22 : decode cX11_lead 22 = .ok (.goto 5, 3) := by decide +kernel
theorem dX11_lead_25 : decode cX11_lead 25 = .ok (.ldc 155, 2) := by decide +kernel
theorem dX11_lead_27 : decode cX11_lead 27 = .ok (.ireturn, 1) := by decide +kernel
set_option maxRecDepth 20000 in
theorem ggX11_close_X11_isJudge : GoodIn wsX11_close wsX11_isJudge := goodIn_r _ [5, 6, 7, 8, 4, 9, 40, 41, 42, 43, 44, 45, 46, 47, 48, 49, 50, 51, 52, 53, 54, 55, 56, 57, 58, 59, 60, 61, 62, 63] (by decide +kernel) (by decide +kernel)
set_option maxRecDepth 20000 in
theorem gX11_close_X11_isJudge : GoodIn wsX11_close (wsV RX11 149 RX11 yX11_isJudge wsX11_isJudge) := goodIn_app (goodIn_of _ (by decide +kernel)) ggX11_close_X11_isJudge
set_option maxRecDepth 20000 in
theorem ggX11_close_X11_isRound : GoodIn wsX11_close wsX11_isRound := goodIn_r _ [13, 14, 7, 8, 4, 9, 40, 41, 42, 43, 44, 45, 46, 47, 48, 49, 50, 51, 52, 53, 54, 55, 56, 57, 58, 59, 60, 61, 62, 63] (by decide +kernel) (by decide +kernel)
set_option maxRecDepth 20000 in
theorem gX11_close_X11_isRound : GoodIn wsX11_close (wsV RX11 152 RX11 yX11_isRound wsX11_isRound) := goodIn_app (goodIn_of _ (by decide +kernel)) ggX11_close_X11_isRound
set_option maxRecDepth 20000 in
theorem ggX11_close_X11_isClose : GoodIn wsX11_close wsX11_isClose := goodIn_r _ [18, 19, 20, 21, 22, 4, 23, 24, 25, 26, 27, 28, 29, 30, 31, 32, 33, 34, 35, 36, 37, 38, 39, 7, 8, 9, 40, 41, 42, 43, 44, 45, 46, 47, 48, 49, 50, 51, 52, 53, 54, 55, 56, 57, 58, 59, 60, 61, 62, 63] (by decide +kernel) (by decide +kernel)
set_option maxRecDepth 20000 in
theorem gX11_close_X11_isClose : GoodIn wsX11_close (wsV RX11 156 RX11 yX11_isClose wsX11_isClose) := goodIn_app (goodIn_of _ (by decide +kernel)) ggX11_close_X11_isClose
theorem dX11_close_0 : decode cX11_close 0 = .ok (.aload_n 0, 1) := by decide +kernel
theorem dX11_close_1 : decode cX11_close 1 = .ok (.iload_n 1, 1) := by decide +kernel
theorem dX11_close_2 : decode cX11_close 2 = .ok (.invokevirtual 149, 3) := by decide +kernel
theorem dX11_close_5 : decode cX11_close 5 = .ok (.ifCond .eq 28, 3) := by decide +kernel
theorem dX11_close_8 : decode cX11_close 8 = .ok (.aload_n 0, 1) := by decide +kernel
theorem dX11_close_9 : decode cX11_close 9 = .ok (.iload_n 2, 1) := by decide +kernel
theorem dX11_close_10 : decode cX11_close 10 = .ok (.invokevirtual 152, 3) := by decide +kernel
theorem dX11_close_13 : decode cX11_close 13 = .ok (.ifCond .eq 20, 3) := by decide +kernel
theorem dX11_close_16 : decode cX11_close 16 = .ok (.aload_n 0, 1) := by decide +kernel
theorem dX11_close_17 : decode cX11_close 17 = .ok (.iload_n 1, 1) := by decide +kernel
theorem dX11_close_18 : decode cX11_close 18 = .ok (.iload_n 2, 1) := by decide +kernel
theorem dX11_close_19 : decode cX11_close 19 = .ok (.invokevirtual 156, 3) := by decide +kernel
theorem dX11_close_22 : decode cX11_close 22 = .ok (.ifCond .eq 7, 3) := by decide +kernel
theorem dX11_close_25 : decode cX11_close 25 = .ok (.iconst 1, 1) := by decide +kernel
theorem dX11_close_26 : decode cX11_close 26 = .ok (.goto 8, 3) := by decide +kernel
theorem dX11_close_29 : decode cX11_close 29 = .ok (.iconst 0, 1) := by decide +kernel
theorem dX11_close_30 : decode cX11_close 30 = .ok (.goto 4, 3) := by decide +kernel
theorem dX11_close_33 : decode cX11_close 33 = .ok (.iconst (-1), 1) := by decide +kernel
theorem dX11_close_34 : decode cX11_close 34 = .ok (.ireturn, 1) := by decide +kernel
set_option maxRecDepth 20000 in
theorem ggX11_side_X11_leadOf : GoodIn wsX11_side wsX11_leadOf := goodIn_r _ [5, 6, 7, 8, 9, 4, 10, 11, 12, 13, 14, 15, 16, 17, 18, 19, 20, 21, 22, 23, 24, 25, 26, 27, 28, 29, 30, 31, 32, 33, 34, 35, 36, 37, 38, 39, 40, 41, 42, 43, 44, 45, 46] (by decide +kernel) (by decide +kernel)
set_option maxRecDepth 20000 in
theorem gX11_side_X11_leadOf : GoodIn wsX11_side (wsV RX11 145 RX11 yX11_leadOf wsX11_leadOf) := goodIn_app (goodIn_of _ (by decide +kernel)) ggX11_side_X11_leadOf
theorem dX11_side_0 : decode cX11_side 0 = .ok (.iload_n 2, 1) := by decide +kernel
theorem dX11_side_1 : decode cX11_side 1 = .ok (.istore_n 3, 1) := by decide +kernel
theorem dX11_side_2 : decode cX11_side 2 = .ok (.iload_n 3, 1) := by decide +kernel
theorem dX11_side_3 : decode cX11_side 3 = .ok (.ifCond .lt 33, 3) := by decide +kernel
theorem dX11_side_6 : decode cX11_side 6 = .ok (.aload_n 0, 1) := by decide +kernel
theorem dX11_side_7 : decode cX11_side 7 = .ok (.iload_n 1, 1) := by decide +kernel
theorem dX11_side_8 : decode cX11_side 8 = .ok (.iload_n 3, 1) := by decide +kernel
theorem dX11_side_9 : decode cX11_side 9 = .ok (.invokevirtual 145, 3) := by decide +kernel
theorem dX11_side_12 : decode cX11_side 12 = .ok (.istore 4, 2) := by decide +kernel
theorem dX11_side_14 : decode cX11_side 14 = .ok (.iload 4, 2) := by decide +kernel
theorem dX11_side_16 : decode cX11_side 16 = .ok (.ifCond .eq 14, 3) := by decide +kernel
theorem dX11_side_19 : decode cX11_side 19 = .ok (.iload 4, 2) := by decide +kernel
theorem dX11_side_21 : decode cX11_side 21 = .ok (.ifCond .le 7, 3) := by decide +kernel
theorem dX11_side_24 : decode cX11_side 24 = .ok (.iconst 1, 1) := by decide +kernel
theorem dX11_side_25 : decode cX11_side 25 = .ok (.goto 4, 3) := by decide +kernel
theorem dX11_side_28 : decode cX11_side 28 = .ok (.iconst (-1), 1) := by decide +kernel
theorem dX11_side_29 : decode cX11_side 29 = .ok (.ireturn, 1) := by decide +kernel
theorem dX11_side_30 : decode cX11_side 30 = .ok (.iinc 3 (-1), 3) := by decide +kernel
theorem dX11_side_33 : decode cX11_side 33 = .ok (.goto (-31), 3) := by decide +kernel
theorem dX11_side_36 : decode cX11_side 36 = .ok (.iconst 1, 1) := by decide +kernel
theorem dX11_side_37 : decode cX11_side 37 = .ok (.ireturn, 1) := by decide +kernel
theorem dX11_bound_0 : decode cX11_bound 0 = .ok (.iload_n 0, 1) := by decide +kernel
theorem dX11_bound_1 : decode cX11_bound 1 = .ok (.iload_n 1, 1) := by decide +kernel
theorem dX11_bound_2 : decode cX11_bound 2 = .ok (.if_icmp .le 7, 3) := by decide +kernel
theorem dX11_bound_5 : decode cX11_bound 5 = .ok (.iload_n 1, 1) := by decide +kernel
theorem dX11_bound_6 : decode cX11_bound 6 = .ok (.goto 15, 3) := by decide +kernel
theorem dX11_bound_9 : decode cX11_bound 9 = .ok (.iload_n 0, 1) := by decide +kernel
theorem dX11_bound_10 : decode cX11_bound 10 = .ok (.iload_n 1, 1) := by decide +kernel
theorem dX11_bound_11 : decode cX11_bound 11 = .ok (.ineg, 1) := by decide +kernel
theorem dX11_bound_12 : decode cX11_bound 12 = .ok (.if_icmp .ge 8, 3) := by decide +kernel
theorem dX11_bound_15 : decode cX11_bound 15 = .ok (.iload_n 1, 1) := by decide +kernel
theorem dX11_bound_16 : decode cX11_bound 16 = .ok (.ineg, 1) := by decide +kernel
theorem dX11_bound_17 : decode cX11_bound 17 = .ok (.goto 4, 3) := by decide +kernel
theorem dX11_bound_20 : decode cX11_bound 20 = .ok (.iload_n 0, 1) := by decide +kernel
theorem dX11_bound_21 : decode cX11_bound 21 = .ok (.ireturn, 1) := by decide +kernel
theorem dX11_downOf_0 : decode cX11_downOf 0 = .ok (.aload_n 0, 1) := by decide +kernel
theorem dX11_downOf_1 : decode cX11_downOf 1 = .ok (.getfield 25, 3) := by decide +kernel
theorem dX11_downOf_4 : decode cX11_downOf 4 = .ok (.iconst 2, 1) := by decide +kernel
theorem dX11_downOf_5 : decode cX11_downOf 5 = .ok (.iload_n 1, 1) := by decide +kernel
theorem dX11_downOf_6 : decode cX11_downOf 6 = .ok (.imul, 1) := by decide +kernel
theorem dX11_downOf_7 : decode cX11_downOf 7 = .ok (.iconst 1, 1) := by decide +kernel
theorem dX11_downOf_8 : decode cX11_downOf 8 = .ok (.iadd, 1) := by decide +kernel
theorem dX11_downOf_9 : decode cX11_downOf 9 = .ok (.iaload, 1) := by decide +kernel
theorem dX11_downOf_10 : decode cX11_downOf 10 = .ok (.aload_n 0, 1) := by decide +kernel
theorem dX11_downOf_11 : decode cX11_downOf 11 = .ok (.getfield 25, 3) := by decide +kernel
theorem dX11_downOf_14 : decode cX11_downOf 14 = .ok (.iconst 2, 1) := by decide +kernel
theorem dX11_downOf_15 : decode cX11_downOf 15 = .ok (.iload_n 1, 1) := by decide +kernel
theorem dX11_downOf_16 : decode cX11_downOf 16 = .ok (.imul, 1) := by decide +kernel
theorem dX11_downOf_17 : decode cX11_downOf 17 = .ok (.iaload, 1) := by decide +kernel
theorem dX11_downOf_18 : decode cX11_downOf 18 = .ok (.isub, 1) := by decide +kernel
theorem dX11_downOf_19 : decode cX11_downOf 19 = .ok (.ireturn, 1) := by decide +kernel
set_option maxRecDepth 20000 in
theorem ggX11_margin0_X11_leadOf : GoodIn wsX11_margin0 wsX11_leadOf := goodIn_r _ [5, 6, 7, 8, 9, 4, 10, 11, 12, 13, 14, 15, 16, 17, 18, 19, 20, 21, 22, 42, 43, 44, 45, 46, 47, 48, 49, 50, 51, 52, 53, 54, 55, 56, 57, 58, 59, 60, 61, 62, 63, 64, 65] (by decide +kernel) (by decide +kernel)
set_option maxRecDepth 20000 in
theorem gX11_margin0_X11_leadOf : GoodIn wsX11_margin0 (wsV RX11 145 RX11 yX11_leadOf wsX11_leadOf) := goodIn_app (goodIn_of _ (by decide +kernel)) ggX11_margin0_X11_leadOf
set_option maxRecDepth 20000 in
theorem ggX11_margin0_X11_bound : GoodIn wsX11_margin0 wsX11_bound := goodIn_r _ [25] (by decide +kernel) (by decide +kernel)
set_option maxRecDepth 20000 in
theorem gX11_margin0_X11_bound : GoodIn wsX11_margin0 (va_wsS RX11 159 yX11_bound wsX11_bound) := goodIn_app (goodIn_of _ (by decide +kernel)) ggX11_margin0_X11_bound
set_option maxRecDepth 20000 in
theorem ggX11_margin0_X11_downOf : GoodIn wsX11_margin0 wsX11_downOf := goodIn_r _ [29, 30, 42, 43, 44, 45, 46, 47, 48, 49, 50, 51, 52, 53, 54, 55, 56, 57, 58, 59, 60, 61, 62, 63, 64, 65] (by decide +kernel) (by decide +kernel)
set_option maxRecDepth 20000 in
theorem gX11_margin0_X11_downOf : GoodIn wsX11_margin0 (wsV RX11 162 RX11 yX11_downOf wsX11_downOf) := goodIn_app (goodIn_of _ (by decide +kernel)) ggX11_margin0_X11_downOf
set_option maxRecDepth 20000 in
theorem ggX11_margin0_X11_isClose : GoodIn wsX11_margin0 wsX11_isClose := goodIn_r _ [34, 6, 1, 2, 3, 4, 5, 7, 8, 9, 10, 11, 12, 13, 14, 15, 16, 17, 18, 19, 20, 21, 22, 35, 36, 37, 42, 43, 44, 45, 46, 47, 48, 49, 50, 51, 52, 53, 54, 55, 56, 57, 58, 59, 60, 61, 62, 63, 64, 65] (by decide +kernel) (by decide +kernel)
set_option maxRecDepth 20000 in
theorem gX11_margin0_X11_isClose : GoodIn wsX11_margin0 (wsV RX11 156 RX11 yX11_isClose wsX11_isClose) := goodIn_app (goodIn_of _ (by decide +kernel)) ggX11_margin0_X11_isClose
set_option maxRecDepth 20000 in
theorem ggX11_margin0_X11_side : GoodIn wsX11_margin0 wsX11_side := goodIn_r _ [41, 1, 2, 3, 4, 5, 6, 7, 8, 9, 10, 11, 12, 13, 14, 15, 16, 17, 18, 19, 20, 21, 22, 42, 43, 44, 45, 46, 47, 48, 49, 50, 51, 52, 53, 54, 55, 56, 57, 58, 59, 60, 61, 62, 63, 64, 65] (by decide +kernel) (by decide +kernel)
set_option maxRecDepth 20000 in
theorem gX11_margin0_X11_side : GoodIn wsX11_margin0 (wsV RX11 165 RX11 yX11_side wsX11_side) := goodIn_app (goodIn_of _ (by decide +kernel)) ggX11_margin0_X11_side
theorem dX11_margin0_0 : decode cX11_margin0 0 = .ok (.iload_n 1, 1) := by decide +kernel
theorem dX11_margin0_1 : decode cX11_margin0 1 = .ok (.iconst 3, 1) := by decide +kernel
theorem dX11_margin0_2 : decode cX11_margin0 2 = .ok (.if_icmp .ne 53, 3) := by decide +kernel
theorem dX11_margin0_5 : decode cX11_margin0 5 = .ok (.aload_n 0, 1) := by decide +kernel
theorem dX11_margin0_6 : decode cX11_margin0 6 = .ok (.iload_n 2, 1) := by decide +kernel
theorem dX11_margin0_7 : decode cX11_margin0 7 = .ok (.iload_n 3, 1) := by decide +kernel
theorem dX11_margin0_8 : decode cX11_margin0 8 = .ok (.invokevirtual 145, 3) := by decide +kernel
theorem dX11_margin0_11 : decode cX11_margin0 11 = .ok (.istore 5, 2) := by decide +kernel
theorem dX11_margin0_13 : decode cX11_margin0 13 = .ok (.iload 5, 2) := by decide +kernel
theorem dX11_margin0_15 : decode cX11_margin0 15 = .ok (.iconst 5, 1) := by decide +kernel
theorem dX11_margin0_16 : decode cX11_margin0 16 = .ok (.idiv, 1) := by decide +kernel
theorem dX11_margin0_17 : decode cX11_margin0 17 = .ok (.iload 5, 2) := by decide +kernel
theorem dX11_margin0_19 : decode cX11_margin0 19 = .ok (.ifCond .le 7, 3) := by decide +kernel
theorem dX11_margin0_22 : decode cX11_margin0 22 = .ok (.iconst 1, 1) := by decide +kernel
theorem dX11_margin0_23 : decode cX11_margin0 23 = .ok (.goto 13, 3) := by decide +kernel
theorem dX11_margin0_26 : decode cX11_margin0 26 = .ok (.iload 5, 2) := by decide +kernel
theorem dX11_margin0_28 : decode cX11_margin0 28 = .ok (.ifCond .ge 7, 3) := by decide +kernel
theorem dX11_margin0_31 : decode cX11_margin0 31 = .ok (.iconst (-1), 1) := by decide +kernel
theorem dX11_margin0_32 : decode cX11_margin0 32 = .ok (.goto 4, 3) := by decide +kernel
theorem dX11_margin0_35 : decode cX11_margin0 35 = .ok (.iconst 0, 1) := by decide +kernel
theorem dX11_margin0_36 : decode cX11_margin0 36 = .ok (.iadd, 1) := by decide +kernel
theorem dX11_margin0_37 : decode cX11_margin0 37 = .ok (.istore 6, 2) := by decide +kernel
theorem dX11_margin0_39 : decode cX11_margin0 39 = .ok (.iload 6, 2) := by decide +kernel
theorem dX11_margin0_41 : decode cX11_margin0 41 = .ok (.bipush 20, 2) := by decide +kernel
theorem dX11_margin0_43 : decode cX11_margin0 43 = .ok (.invokestatic 159, 3) := by decide +kernel
theorem dX11_margin0_46 : decode cX11_margin0 46 = .ok (.iconst 4, 1) := by decide +kernel
theorem dX11_margin0_47 : decode cX11_margin0 47 = .ok (.aload_n 0, 1) := by decide +kernel
theorem dX11_margin0_48 : decode cX11_margin0 48 = .ok (.iload_n 3, 1) := by decide +kernel
theorem dX11_margin0_49 : decode cX11_margin0 49 = .ok (.invokevirtual 162, 3) := by decide +kernel
theorem dX11_margin0_52 : decode cX11_margin0 52 = .ok (.imul, 1) := by decide +kernel
theorem dX11_margin0_53 : decode cX11_margin0 53 = .ok (.iadd, 1) := by decide +kernel
theorem dX11_margin0_54 : decode cX11_margin0 54 = .ok (.ireturn, 1) := by decide +kernel
theorem dX11_margin0_55 : decode cX11_margin0 55 = .ok (.iload_n 1, 1) := by decide +kernel
theorem dX11_margin0_56 : decode cX11_margin0 56 = .ok (.ifCond .eq 12, 3) := by decide +kernel
theorem dX11_margin0_59 : decode cX11_margin0 59 = .ok (.aload_n 0, 1) := by decide +kernel
theorem dX11_margin0_60 : decode cX11_margin0 60 = .ok (.iload_n 2, 1) := by decide +kernel
theorem dX11_margin0_61 : decode cX11_margin0 61 = .ok (.iload_n 3, 1) := by decide +kernel
theorem dX11_margin0_62 : decode cX11_margin0 62 = .ok (.invokevirtual 156, 3) := by decide +kernel
theorem dX11_margin0_65 : decode cX11_margin0 65 = .ok (.ifCond .ne 7, 3) := by decide +kernel
theorem dX11_margin0_68 : decode cX11_margin0 68 = .ok (.iconst 2, 1) := by decide +kernel
theorem dX11_margin0_69 : decode cX11_margin0 69 = .ok (.goto 13, 3) := by decide +kernel
theorem dX11_margin0_72 : decode cX11_margin0 72 = .ok (.iload_n 1, 1) := by decide +kernel
theorem dX11_margin0_73 : decode cX11_margin0 73 = .ok (.iconst 1, 1) := by decide +kernel
theorem dX11_margin0_74 : decode cX11_margin0 74 = .ok (.if_icmp .ne 7, 3) := by decide +kernel
theorem dX11_margin0_77 : decode cX11_margin0 77 = .ok (.iconst 1, 1) := by decide +kernel
theorem dX11_margin0_78 : decode cX11_margin0 78 = .ok (.goto 4, 3) := by decide +kernel
theorem dX11_margin0_81 : decode cX11_margin0 81 = .ok (.iconst 0, 1) := by decide +kernel
theorem dX11_margin0_82 : decode cX11_margin0 82 = .ok (.istore 5, 2) := by decide +kernel
theorem dX11_margin0_84 : decode cX11_margin0 84 = .ok (.iload 4, 2) := by decide +kernel
theorem dX11_margin0_86 : decode cX11_margin0 86 = .ok (.ifCond .eq 16, 3) := by decide +kernel
theorem dX11_margin0_89 : decode cX11_margin0 89 = .ok (.iload 5, 2) := by decide +kernel
theorem dX11_margin0_91 : decode cX11_margin0 91 = .ok (.ineg, 1) := by decide +kernel
theorem dX11_margin0_92 : decode cX11_margin0 92 = .ok (.aload_n 0, 1) := by decide +kernel
theorem dX11_margin0_93 : decode cX11_margin0 93 = .ok (.iload_n 2, 1) := by decide +kernel
theorem dX11_margin0_94 : decode cX11_margin0 94 = .ok (.iload_n 3, 1) := by decide +kernel
theorem dX11_margin0_95 : decode cX11_margin0 95 = .ok (.invokevirtual 165, 3) := by decide +kernel
theorem dX11_margin0_98 : decode cX11_margin0 98 = .ok (.imul, 1) := by decide +kernel
theorem dX11_margin0_99 : decode cX11_margin0 99 = .ok (.goto 12, 3) := by decide +kernel
theorem dX11_margin0_102 : decode cX11_margin0 102 = .ok (.iload 5, 2) := by decide +kernel
theorem dX11_margin0_104 : decode cX11_margin0 104 = .ok (.aload_n 0, 1) := by decide +kernel
theorem dX11_margin0_105 : decode cX11_margin0 105 = .ok (.iload_n 2, 1) := by decide +kernel
theorem dX11_margin0_106 : decode cX11_margin0 106 = .ok (.iload_n 3, 1) := by decide +kernel
theorem dX11_margin0_107 : decode cX11_margin0 107 = .ok (.invokevirtual 165, 3) := by decide +kernel
theorem dX11_margin0_110 : decode cX11_margin0 110 = .ok (.imul, 1) := by decide +kernel
theorem dX11_margin0_111 : decode cX11_margin0 111 = .ok (.istore 6, 2) := by decide +kernel
theorem dX11_margin0_113 : decode cX11_margin0 113 = .ok (.iload 6, 2) := by decide +kernel
theorem dX11_margin0_115 : decode cX11_margin0 115 = .ok (.iconst 2, 1) := by decide +kernel
theorem dX11_margin0_116 : decode cX11_margin0 116 = .ok (.aload_n 0, 1) := by decide +kernel
theorem dX11_margin0_117 : decode cX11_margin0 117 = .ok (.iload_n 3, 1) := by decide +kernel
theorem dX11_margin0_118 : decode cX11_margin0 118 = .ok (.invokevirtual 162, 3) := by decide +kernel
theorem dX11_margin0_121 : decode cX11_margin0 121 = .ok (.imul, 1) := by decide +kernel
theorem dX11_margin0_122 : decode cX11_margin0 122 = .ok (.iadd, 1) := by decide +kernel
theorem dX11_margin0_123 : decode cX11_margin0 123 = .ok (.bipush 8, 2) := by decide +kernel
theorem dX11_margin0_125 : decode cX11_margin0 125 = .ok (.invokestatic 159, 3) := by decide +kernel
theorem dX11_margin0_128 : decode cX11_margin0 128 = .ok (.ireturn, 1) := by decide +kernel
set_option maxRecDepth 20000 in
theorem ggX11_isRule_X11_in : GoodIn wsX11_isRule wsX11_in := goodIn_r _ [5] (by decide +kernel) (by decide +kernel)
set_option maxRecDepth 20000 in
theorem gX11_isRule_X11_in : GoodIn wsX11_isRule (va_wsS RX11 80 yX11_in wsX11_in) := goodIn_app (goodIn_of _ (by decide +kernel)) ggX11_isRule_X11_in
theorem dX11_isRule_0 : decode cX11_isRule 0 = .ok (.iload_n 0, 1) := by decide +kernel
theorem dX11_isRule_1 : decode cX11_isRule 1 = .ok (.i2l, 1) := by decide +kernel
theorem dX11_isRule_2 : decode cX11_isRule 2 = .ok (.lconst 0, 1) := by decide +kernel
theorem dX11_isRule_3 : decode cX11_isRule 3 = .ok (.ldc2_w 101, 3) := by decide +kernel
theorem dX11_isRule_6 : decode cX11_isRule 6 = .ok (.invokestatic 80, 3) := by decide +kernel
theorem dX11_isRule_9 : decode cX11_isRule 9 = .ok (.ireturn, 1) := by decide +kernel
set_option maxRecDepth 20000 in
theorem ggX11_margin_X11_isRule : GoodIn wsX11_margin wsX11_isRule := goodIn_r _ [5, 6, 7, 8, 4, 9] (by decide +kernel) (by decide +kernel)
set_option maxRecDepth 20000 in
theorem gX11_margin_X11_isRule : GoodIn wsX11_margin (va_wsS RX11 168 yX11_isRule wsX11_isRule) := goodIn_app (goodIn_of _ (by decide +kernel)) ggX11_margin_X11_isRule
set_option maxRecDepth 20000 in
theorem ggX11_margin_X11_isJudge : GoodIn wsX11_margin wsX11_isJudge := goodIn_r _ [13, 14, 7, 8, 4, 9, 61, 62, 63, 64, 65, 66, 67, 68, 69, 70, 71, 72, 73, 74, 75, 76, 77, 78, 79, 80, 81, 82, 83, 84] (by decide +kernel) (by decide +kernel)
set_option maxRecDepth 20000 in
theorem gX11_margin_X11_isJudge : GoodIn wsX11_margin (wsV RX11 149 RX11 yX11_isJudge wsX11_isJudge) := goodIn_app (goodIn_of _ (by decide +kernel)) ggX11_margin_X11_isJudge
set_option maxRecDepth 20000 in
theorem ggX11_margin_X11_isRound : GoodIn wsX11_margin wsX11_isRound := goodIn_r _ [18, 19, 7, 8, 4, 9, 61, 62, 63, 64, 65, 66, 67, 68, 69, 70, 71, 72, 73, 74, 75, 76, 77, 78, 79, 80, 81, 82, 83, 84] (by decide +kernel) (by decide +kernel)
set_option maxRecDepth 20000 in
theorem gX11_margin_X11_isRound : GoodIn wsX11_margin (wsV RX11 152 RX11 yX11_isRound wsX11_isRound) := goodIn_app (goodIn_of _ (by decide +kernel)) ggX11_margin_X11_isRound
set_option maxRecDepth 20000 in
theorem ggX11_margin_X11_margin0 : GoodIn wsX11_margin wsX11_margin0 := goodIn_r _ [23, 24, 25, 26, 4, 27, 28, 29, 30, 31, 32, 33, 34, 35, 36, 37, 38, 39, 40, 41, 42, 43, 44, 45, 46, 47, 48, 49, 50, 51, 52, 53, 54, 55, 56, 7, 8, 9, 57, 58, 59, 60, 61, 62, 63, 64, 65, 66, 67, 68, 69, 70, 71, 72, 73, 74, 75, 76, 77, 78, 79, 80, 81, 82, 83, 84] (by decide +kernel) (by decide +kernel)
set_option maxRecDepth 20000 in
theorem gX11_margin_X11_margin0 : GoodIn wsX11_margin (wsV RX11 171 RX11 yX11_margin0 wsX11_margin0) := goodIn_app (goodIn_of _ (by decide +kernel)) ggX11_margin_X11_margin0
theorem dX11_margin_0 : decode cX11_margin 0 = .ok (.iload_n 1, 1) := by decide +kernel
theorem dX11_margin_1 : decode cX11_margin 1 = .ok (.invokestatic 168, 3) := by decide +kernel
theorem dX11_margin_4 : decode cX11_margin 4 = .ok (.ifCond .eq 30, 3) := by decide +kernel
theorem dX11_margin_7 : decode cX11_margin 7 = .ok (.aload_n 0, 1) := by decide +kernel
theorem dX11_margin_8 : decode cX11_margin 8 = .ok (.iload_n 2, 1) := by decide +kernel
theorem dX11_margin_9 : decode cX11_margin 9 = .ok (.invokevirtual 149, 3) := by decide +kernel
theorem dX11_margin_12 : decode cX11_margin 12 = .ok (.ifCond .eq 22, 3) := by decide +kernel
theorem dX11_margin_15 : decode cX11_margin 15 = .ok (.aload_n 0, 1) := by decide +kernel
theorem dX11_margin_16 : decode cX11_margin 16 = .ok (.iload_n 3, 1) := by decide +kernel
theorem dX11_margin_17 : decode cX11_margin 17 = .ok (.invokevirtual 152, 3) := by decide +kernel
theorem dX11_margin_20 : decode cX11_margin 20 = .ok (.ifCond .eq 14, 3) := by decide +kernel
theorem dX11_margin_23 : decode cX11_margin 23 = .ok (.aload_n 0, 1) := by decide +kernel
theorem dX11_margin_24 : decode cX11_margin 24 = .ok (.iload_n 1, 1) := by decide +kernel
theorem dX11_margin_25 : decode cX11_margin 25 = .ok (.iload_n 2, 1) := by decide +kernel
theorem dX11_margin_26 : decode cX11_margin 26 = .ok (.iload_n 3, 1) := by decide +kernel
theorem dX11_margin_27 : decode cX11_margin 27 = .ok (.iconst 0, 1) := by decide +kernel
theorem dX11_margin_28 : decode cX11_margin 28 = .ok (.invokevirtual 171, 3) := by decide +kernel
theorem dX11_margin_31 : decode cX11_margin 31 = .ok (.goto 5, 3) := by decide +kernel
theorem dX11_margin_34 : decode cX11_margin 34 = .ok (.ldc 155, 2) := by decide +kernel
theorem dX11_margin_36 : decode cX11_margin 36 = .ok (.ireturn, 1) := by decide +kernel
theorem dX11_takenOf_0 : decode cX11_takenOf 0 = .ok (.iconst 0, 1) := by decide +kernel
theorem dX11_takenOf_1 : decode cX11_takenOf 1 = .ok (.istore_n 2, 1) := by decide +kernel
theorem dX11_takenOf_2 : decode cX11_takenOf 2 = .ok (.iconst 0, 1) := by decide +kernel
theorem dX11_takenOf_3 : decode cX11_takenOf 3 = .ok (.istore_n 3, 1) := by decide +kernel
theorem dX11_takenOf_4 : decode cX11_takenOf 4 = .ok (.iload_n 3, 1) := by decide +kernel
theorem dX11_takenOf_5 : decode cX11_takenOf 5 = .ok (.aload_n 0, 1) := by decide +kernel
theorem dX11_takenOf_6 : decode cX11_takenOf 6 = .ok (.getfield 13, 3) := by decide +kernel
theorem dX11_takenOf_9 : decode cX11_takenOf 9 = .ok (.iconst 0, 1) := by decide +kernel
theorem dX11_takenOf_10 : decode cX11_takenOf 10 = .ok (.iaload, 1) := by decide +kernel
theorem dX11_takenOf_11 : decode cX11_takenOf 11 = .ok (.if_icmp .ge 22, 3) := by decide +kernel
theorem dX11_takenOf_14 : decode cX11_takenOf 14 = .ok (.iload_n 2, 1) := by decide +kernel
theorem dX11_takenOf_15 : decode cX11_takenOf 15 = .ok (.aload_n 0, 1) := by decide +kernel
theorem dX11_takenOf_16 : decode cX11_takenOf 16 = .ok (.getfield 28, 3) := by decide +kernel
theorem dX11_takenOf_19 : decode cX11_takenOf 19 = .ok (.iconst 2, 1) := by decide +kernel
theorem dX11_takenOf_20 : decode cX11_takenOf 20 = .ok (.iload_n 3, 1) := by decide +kernel
theorem dX11_takenOf_21 : decode cX11_takenOf 21 = .ok (.imul, 1) := by decide +kernel
theorem dX11_takenOf_22 : decode cX11_takenOf 22 = .ok (.iload_n 1, 1) := by decide +kernel
theorem dX11_takenOf_23 : decode cX11_takenOf 23 = .ok (.iadd, 1) := by decide +kernel
theorem dX11_takenOf_24 : decode cX11_takenOf 24 = .ok (.iaload, 1) := by decide +kernel
theorem dX11_takenOf_25 : decode cX11_takenOf 25 = .ok (.iadd, 1) := by decide +kernel
theorem dX11_takenOf_26 : decode cX11_takenOf 26 = .ok (.istore_n 2, 1) := by decide +kernel
theorem dX11_takenOf_27 : decode cX11_takenOf 27 = .ok (.iinc 3 1, 3) := by decide +kernel
theorem dX11_takenOf_30 : decode cX11_takenOf 30 = .ok (.goto (-26), 3) := by decide +kernel
theorem dX11_takenOf_33 : decode cX11_takenOf 33 = .ok (.iload_n 2, 1) := by decide +kernel
theorem dX11_takenOf_34 : decode cX11_takenOf 34 = .ok (.ireturn, 1) := by decide +kernel
set_option maxRecDepth 20000 in
theorem ggX11_cardOf_X11_takenOf : GoodIn wsX11_cardOf wsX11_takenOf := goodIn_r _ [6, 1, 7, 52, 53, 54, 55, 56, 57, 58, 59, 60, 61, 62, 63, 64, 65, 66, 67, 68, 69, 70, 71, 72, 73, 74, 75] (by decide +kernel) (by decide +kernel)
set_option maxRecDepth 20000 in
theorem gX11_cardOf_X11_takenOf : GoodIn wsX11_cardOf (wsV RX11 175 RX11 yX11_takenOf wsX11_takenOf) := goodIn_app (goodIn_of _ (by decide +kernel)) ggX11_cardOf_X11_takenOf
set_option maxRecDepth 20000 in
theorem ggX11_cardOf_X11_margin0 : GoodIn wsX11_cardOf wsX11_margin0 := goodIn_r _ [11, 12, 13, 14, 5, 15, 16, 17, 18, 19, 20, 21, 22, 23, 24, 25, 26, 27, 28, 29, 30, 31, 32, 33, 34, 35, 36, 37, 38, 39, 40, 41, 42, 43, 44, 45, 46, 47, 48, 49, 50, 51, 52, 53, 54, 55, 56, 57, 58, 59, 60, 61, 62, 63, 64, 65, 66, 67, 68, 69, 70, 71, 72, 73, 74, 75] (by decide +kernel) (by decide +kernel)
set_option maxRecDepth 20000 in
theorem gX11_cardOf_X11_margin0 : GoodIn wsX11_cardOf (wsV RX11 171 RX11 yX11_margin0 wsX11_margin0) := goodIn_app (goodIn_of _ (by decide +kernel)) ggX11_cardOf_X11_margin0
theorem dX11_cardOf_0 : decode cX11_cardOf 0 = .ok (.iconst 2, 1) := by decide +kernel
theorem dX11_cardOf_1 : decode cX11_cardOf 1 = .ok (.aload_n 0, 1) := by decide +kernel
theorem dX11_cardOf_2 : decode cX11_cardOf 2 = .ok (.iconst 1, 1) := by decide +kernel
theorem dX11_cardOf_3 : decode cX11_cardOf 3 = .ok (.invokevirtual 175, 3) := by decide +kernel
theorem dX11_cardOf_6 : decode cX11_cardOf 6 = .ok (.imul, 1) := by decide +kernel
theorem dX11_cardOf_7 : decode cX11_cardOf 7 = .ok (.iconst 2, 1) := by decide +kernel
theorem dX11_cardOf_8 : decode cX11_cardOf 8 = .ok (.aload_n 0, 1) := by decide +kernel
theorem dX11_cardOf_9 : decode cX11_cardOf 9 = .ok (.iconst 0, 1) := by decide +kernel
theorem dX11_cardOf_10 : decode cX11_cardOf 10 = .ok (.invokevirtual 175, 3) := by decide +kernel
theorem dX11_cardOf_13 : decode cX11_cardOf 13 = .ok (.imul, 1) := by decide +kernel
theorem dX11_cardOf_14 : decode cX11_cardOf 14 = .ok (.isub, 1) := by decide +kernel
theorem dX11_cardOf_15 : decode cX11_cardOf 15 = .ok (.istore_n 3, 1) := by decide +kernel
theorem dX11_cardOf_16 : decode cX11_cardOf 16 = .ok (.iconst 0, 1) := by decide +kernel
theorem dX11_cardOf_17 : decode cX11_cardOf 17 = .ok (.istore 4, 2) := by decide +kernel
theorem dX11_cardOf_19 : decode cX11_cardOf 19 = .ok (.iload 4, 2) := by decide +kernel
theorem dX11_cardOf_21 : decode cX11_cardOf 21 = .ok (.aload_n 0, 1) := by decide +kernel
theorem dX11_cardOf_22 : decode cX11_cardOf 22 = .ok (.getfield 13, 3) := by decide +kernel
theorem dX11_cardOf_25 : decode cX11_cardOf 25 = .ok (.iconst 0, 1) := by decide +kernel
theorem dX11_cardOf_26 : decode cX11_cardOf 26 = .ok (.iaload, 1) := by decide +kernel
theorem dX11_cardOf_27 : decode cX11_cardOf 27 = .ok (.if_icmp .ge 21, 3) := by decide +kernel
theorem dX11_cardOf_30 : decode cX11_cardOf 30 = .ok (.iload_n 3, 1) := by decide +kernel
theorem dX11_cardOf_31 : decode cX11_cardOf 31 = .ok (.aload_n 0, 1) := by decide +kernel
theorem dX11_cardOf_32 : decode cX11_cardOf 32 = .ok (.iload_n 1, 1) := by decide +kernel
theorem dX11_cardOf_33 : decode cX11_cardOf 33 = .ok (.iload_n 2, 1) := by decide +kernel
theorem dX11_cardOf_34 : decode cX11_cardOf 34 = .ok (.iload 4, 2) := by decide +kernel
theorem dX11_cardOf_36 : decode cX11_cardOf 36 = .ok (.iconst 0, 1) := by decide +kernel
theorem dX11_cardOf_37 : decode cX11_cardOf 37 = .ok (.invokevirtual 171, 3) := by decide +kernel
theorem dX11_cardOf_40 : decode cX11_cardOf 40 = .ok (.iadd, 1) := by decide +kernel
theorem dX11_cardOf_41 : decode cX11_cardOf 41 = .ok (.istore_n 3, 1) := by decide +kernel
theorem dX11_cardOf_42 : decode cX11_cardOf 42 = .ok (.iinc 4 1, 3) := by decide +kernel
theorem dX11_cardOf_45 : decode cX11_cardOf 45 = .ok (.goto (-26), 3) := by decide +kernel
theorem dX11_cardOf_48 : decode cX11_cardOf 48 = .ok (.iload_n 3, 1) := by decide +kernel
theorem dX11_cardOf_49 : decode cX11_cardOf 49 = .ok (.ireturn, 1) := by decide +kernel
set_option maxRecDepth 20000 in
theorem ggX11_card_X11_isRule : GoodIn wsX11_card wsX11_isRule := goodIn_r _ [5, 6, 7, 8, 4, 9] (by decide +kernel) (by decide +kernel)
set_option maxRecDepth 20000 in
theorem gX11_card_X11_isRule : GoodIn wsX11_card (va_wsS RX11 168 yX11_isRule wsX11_isRule) := goodIn_app (goodIn_of _ (by decide +kernel)) ggX11_card_X11_isRule
set_option maxRecDepth 20000 in
theorem ggX11_card_X11_isJudge : GoodIn wsX11_card wsX11_isJudge := goodIn_r _ [13, 14, 7, 8, 4, 9, 66, 67, 68, 69, 70, 71, 72, 73, 74, 75, 76, 77, 78, 79, 80, 81, 82, 83, 84, 85, 86, 87, 88, 89] (by decide +kernel) (by decide +kernel)
set_option maxRecDepth 20000 in
theorem gX11_card_X11_isJudge : GoodIn wsX11_card (wsV RX11 149 RX11 yX11_isJudge wsX11_isJudge) := goodIn_app (goodIn_of _ (by decide +kernel)) ggX11_card_X11_isJudge
set_option maxRecDepth 20000 in
theorem ggX11_card_X11_cardOf : GoodIn wsX11_card wsX11_cardOf := goodIn_r _ [18, 19, 20, 21, 22, 4, 23, 24, 25, 26, 27, 28, 29, 30, 31, 32, 33, 34, 35, 36, 37, 38, 39, 40, 41, 42, 43, 44, 45, 46, 47, 48, 49, 50, 51, 52, 53, 54, 55, 56, 57, 58, 59, 60, 61, 7, 8, 9, 62, 63, 64, 65, 66, 67, 68, 69, 70, 71, 72, 73, 74, 75, 76, 77, 78, 79, 80, 81, 82, 83, 84, 85, 86, 87, 88, 89] (by decide +kernel) (by decide +kernel)
set_option maxRecDepth 20000 in
theorem gX11_card_X11_cardOf : GoodIn wsX11_card (wsV RX11 178 RX11 yX11_cardOf wsX11_cardOf) := goodIn_app (goodIn_of _ (by decide +kernel)) ggX11_card_X11_cardOf
theorem dX11_card_0 : decode cX11_card 0 = .ok (.iload_n 1, 1) := by decide +kernel
theorem dX11_card_1 : decode cX11_card 1 = .ok (.invokestatic 168, 3) := by decide +kernel
theorem dX11_card_4 : decode cX11_card 4 = .ok (.ifCond .eq 20, 3) := by decide +kernel
theorem dX11_card_7 : decode cX11_card 7 = .ok (.aload_n 0, 1) := by decide +kernel
theorem dX11_card_8 : decode cX11_card 8 = .ok (.iload_n 2, 1) := by decide +kernel
theorem dX11_card_9 : decode cX11_card 9 = .ok (.invokevirtual 149, 3) := by decide +kernel
theorem dX11_card_12 : decode cX11_card 12 = .ok (.ifCond .eq 12, 3) := by decide +kernel
theorem dX11_card_15 : decode cX11_card 15 = .ok (.aload_n 0, 1) := by decide +kernel
theorem dX11_card_16 : decode cX11_card 16 = .ok (.iload_n 1, 1) := by decide +kernel
theorem dX11_card_17 : decode cX11_card 17 = .ok (.iload_n 2, 1) := by decide +kernel
theorem dX11_card_18 : decode cX11_card 18 = .ok (.invokevirtual 178, 3) := by decide +kernel
theorem dX11_card_21 : decode cX11_card 21 = .ok (.goto 5, 3) := by decide +kernel
theorem dX11_card_24 : decode cX11_card 24 = .ok (.ldc 155, 2) := by decide +kernel
theorem dX11_card_26 : decode cX11_card 26 = .ok (.ireturn, 1) := by decide +kernel
set_option maxRecDepth 20000 in
theorem ggX11_pointsOf_X11_takenOf : GoodIn wsX11_pointsOf wsX11_takenOf := goodIn_r _ [6, 1, 7, 52, 53, 54, 55, 56, 57, 58, 59, 60, 61, 62, 63, 64, 65, 66, 67, 68, 69, 70, 71, 72, 73, 74, 75] (by decide +kernel) (by decide +kernel)
set_option maxRecDepth 20000 in
theorem gX11_pointsOf_X11_takenOf : GoodIn wsX11_pointsOf (wsV RX11 175 RX11 yX11_takenOf wsX11_takenOf) := goodIn_app (goodIn_of _ (by decide +kernel)) ggX11_pointsOf_X11_takenOf
set_option maxRecDepth 20000 in
theorem ggX11_pointsOf_X11_margin0 : GoodIn wsX11_pointsOf wsX11_margin0 := goodIn_r _ [11, 12, 13, 14, 5, 15, 16, 17, 18, 19, 20, 21, 22, 23, 24, 25, 26, 27, 28, 29, 30, 31, 32, 33, 34, 35, 36, 37, 38, 39, 40, 41, 42, 43, 44, 45, 46, 47, 48, 49, 50, 51, 52, 53, 54, 55, 56, 57, 58, 59, 60, 61, 62, 63, 64, 65, 66, 67, 68, 69, 70, 71, 72, 73, 74, 75] (by decide +kernel) (by decide +kernel)
set_option maxRecDepth 20000 in
theorem gX11_pointsOf_X11_margin0 : GoodIn wsX11_pointsOf (wsV RX11 171 RX11 yX11_margin0 wsX11_margin0) := goodIn_app (goodIn_of _ (by decide +kernel)) ggX11_pointsOf_X11_margin0
theorem dX11_pointsOf_0 : decode cX11_pointsOf 0 = .ok (.bipush (-2), 2) := by decide +kernel
theorem dX11_pointsOf_2 : decode cX11_pointsOf 2 = .ok (.aload_n 0, 1) := by decide +kernel
theorem dX11_pointsOf_3 : decode cX11_pointsOf 3 = .ok (.iload_n 3, 1) := by decide +kernel
theorem dX11_pointsOf_4 : decode cX11_pointsOf 4 = .ok (.invokevirtual 175, 3) := by decide +kernel
theorem dX11_pointsOf_7 : decode cX11_pointsOf 7 = .ok (.imul, 1) := by decide +kernel
theorem dX11_pointsOf_8 : decode cX11_pointsOf 8 = .ok (.istore 4, 2) := by decide +kernel
theorem dX11_pointsOf_10 : decode cX11_pointsOf 10 = .ok (.iconst 0, 1) := by decide +kernel
theorem dX11_pointsOf_11 : decode cX11_pointsOf 11 = .ok (.istore 5, 2) := by decide +kernel
theorem dX11_pointsOf_13 : decode cX11_pointsOf 13 = .ok (.iload 5, 2) := by decide +kernel
theorem dX11_pointsOf_15 : decode cX11_pointsOf 15 = .ok (.aload_n 0, 1) := by decide +kernel
theorem dX11_pointsOf_16 : decode cX11_pointsOf 16 = .ok (.getfield 13, 3) := by decide +kernel
theorem dX11_pointsOf_19 : decode cX11_pointsOf 19 = .ok (.iconst 0, 1) := by decide +kernel
theorem dX11_pointsOf_20 : decode cX11_pointsOf 20 = .ok (.iaload, 1) := by decide +kernel
theorem dX11_pointsOf_21 : decode cX11_pointsOf 21 = .ok (.if_icmp .ge 53, 3) := by decide +kernel
theorem dX11_pointsOf_24 : decode cX11_pointsOf 24 = .ok (.aload_n 0, 1) := by decide +kernel
theorem dX11_pointsOf_25 : decode cX11_pointsOf 25 = .ok (.iload_n 1, 1) := by decide +kernel
theorem dX11_pointsOf_26 : decode cX11_pointsOf 26 = .ok (.iload_n 2, 1) := by decide +kernel
theorem dX11_pointsOf_27 : decode cX11_pointsOf 27 = .ok (.iload 5, 2) := by decide +kernel
theorem dX11_pointsOf_29 : decode cX11_pointsOf 29 = .ok (.iconst 0, 1) := by decide +kernel
theorem dX11_pointsOf_30 : decode cX11_pointsOf 30 = .ok (.invokevirtual 171, 3) := by decide +kernel
theorem dX11_pointsOf_33 : decode cX11_pointsOf 33 = .ok (.istore 6, 2) := by decide +kernel
theorem dX11_pointsOf_35 : decode cX11_pointsOf 35 = .ok (.iload_n 3, 1) := by decide +kernel
theorem dX11_pointsOf_36 : decode cX11_pointsOf 36 = .ok (.ifCond .ne 9, 3) := by decide +kernel
theorem dX11_pointsOf_39 : decode cX11_pointsOf 39 = .ok (.iload 6, 2) := by decide +kernel
theorem dX11_pointsOf_41 : decode cX11_pointsOf 41 = .ok (.ineg, 1) := by decide +kernel
theorem dX11_pointsOf_42 : decode cX11_pointsOf 42 = .ok (.goto 5, 3) := by decide +kernel
theorem dX11_pointsOf_45 : decode cX11_pointsOf 45 = .ok (.iload 6, 2) := by decide +kernel
theorem dX11_pointsOf_47 : decode cX11_pointsOf 47 = .ok (.istore 7, 2) := by decide +kernel
theorem dX11_pointsOf_49 : decode cX11_pointsOf 49 = .ok (.iload 4, 2) := by decide +kernel
theorem dX11_pointsOf_51 : decode cX11_pointsOf 51 = .ok (.bipush 20, 2) := by decide +kernel
theorem dX11_pointsOf_53 : decode cX11_pointsOf 53 = .ok (.iload 7, 2) := by decide +kernel
theorem dX11_pointsOf_55 : decode cX11_pointsOf 55 = .ok (.ifCond .le 8, 3) := by decide +kernel
theorem dX11_pointsOf_58 : decode cX11_pointsOf 58 = .ok (.iload 7, 2) := by decide +kernel
theorem dX11_pointsOf_60 : decode cX11_pointsOf 60 = .ok (.goto 4, 3) := by decide +kernel
theorem dX11_pointsOf_63 : decode cX11_pointsOf 63 = .ok (.iconst 0, 1) := by decide +kernel
theorem dX11_pointsOf_64 : decode cX11_pointsOf 64 = .ok (.isub, 1) := by decide +kernel
theorem dX11_pointsOf_65 : decode cX11_pointsOf 65 = .ok (.iadd, 1) := by decide +kernel
theorem dX11_pointsOf_66 : decode cX11_pointsOf 66 = .ok (.istore 4, 2) := by decide +kernel
theorem dX11_pointsOf_68 : decode cX11_pointsOf 68 = .ok (.iinc 5 1, 3) := by decide +kernel
theorem dX11_pointsOf_71 : decode cX11_pointsOf 71 = .ok (.goto (-58), 3) := by decide +kernel
theorem dX11_pointsOf_74 : decode cX11_pointsOf 74 = .ok (.iload 4, 2) := by decide +kernel
theorem dX11_pointsOf_76 : decode cX11_pointsOf 76 = .ok (.ireturn, 1) := by decide +kernel
set_option maxRecDepth 20000 in
theorem ggX11_points_X11_in : GoodIn wsX11_points wsX11_in := goodIn_r _ [5] (by decide +kernel) (by decide +kernel)
set_option maxRecDepth 20000 in
theorem gX11_points_X11_in : GoodIn wsX11_points (va_wsS RX11 80 yX11_in wsX11_in) := goodIn_app (goodIn_of _ (by decide +kernel)) ggX11_points_X11_in
set_option maxRecDepth 20000 in
theorem ggX11_points_X11_isJudge : GoodIn wsX11_points wsX11_isJudge := goodIn_r _ [9, 10, 2, 3, 4, 5, 62, 63, 64, 65, 66, 67, 68, 69, 70, 71, 72, 73, 74, 75, 76, 77, 78, 79, 80, 81, 82, 83, 84, 85] (by decide +kernel) (by decide +kernel)
set_option maxRecDepth 20000 in
theorem gX11_points_X11_isJudge : GoodIn wsX11_points (wsV RX11 149 RX11 yX11_isJudge wsX11_isJudge) := goodIn_app (goodIn_of _ (by decide +kernel)) ggX11_points_X11_isJudge
set_option maxRecDepth 20000 in
theorem ggX11_points_X11_pointsOf : GoodIn wsX11_points wsX11_pointsOf := goodIn_r _ [14, 15, 16, 17, 18, 4, 19, 20, 21, 22, 23, 24, 25, 26, 27, 28, 29, 30, 31, 32, 33, 34, 35, 36, 37, 38, 39, 40, 41, 42, 43, 44, 45, 46, 47, 48, 49, 50, 51, 52, 53, 54, 55, 56, 57, 2, 3, 5, 58, 59, 60, 61, 62, 63, 64, 65, 66, 67, 68, 69, 70, 71, 72, 73, 74, 75, 76, 77, 78, 79, 80, 81, 82, 83, 84, 85] (by decide +kernel) (by decide +kernel)
set_option maxRecDepth 20000 in
theorem gX11_points_X11_pointsOf : GoodIn wsX11_points (wsV RX11 183 RX11 yX11_pointsOf wsX11_pointsOf) := goodIn_app (goodIn_of _ (by decide +kernel)) ggX11_points_X11_pointsOf
theorem dX11_points_0 : decode cX11_points 0 = .ok (.iload_n 1, 1) := by decide +kernel
theorem dX11_points_1 : decode cX11_points 1 = .ok (.i2l, 1) := by decide +kernel
theorem dX11_points_2 : decode cX11_points 2 = .ok (.lconst 0, 1) := by decide +kernel
theorem dX11_points_3 : decode cX11_points 3 = .ok (.ldc2_w 181, 3) := by decide +kernel
theorem dX11_points_6 : decode cX11_points 6 = .ok (.invokestatic 80, 3) := by decide +kernel
theorem dX11_points_9 : decode cX11_points 9 = .ok (.ifCond .eq 31, 3) := by decide +kernel
theorem dX11_points_12 : decode cX11_points 12 = .ok (.aload_n 0, 1) := by decide +kernel
theorem dX11_points_13 : decode cX11_points 13 = .ok (.iload_n 2, 1) := by decide +kernel
theorem dX11_points_14 : decode cX11_points 14 = .ok (.invokevirtual 149, 3) := by decide +kernel
theorem dX11_points_17 : decode cX11_points 17 = .ok (.ifCond .eq 23, 3) := by decide +kernel
theorem dX11_points_20 : decode cX11_points 20 = .ok (.iload_n 3, 1) := by decide +kernel
theorem dX11_points_21 : decode cX11_points 21 = .ok (.i2l, 1) := by decide +kernel
theorem dX11_points_22 : decode cX11_points 22 = .ok (.lconst 0, 1) := by decide +kernel
theorem dX11_points_23 : decode cX11_points 23 = .ok (.lconst 1, 1) := by decide +kernel
theorem dX11_points_24 : decode cX11_points 24 = .ok (.invokestatic 80, 3) := by decide +kernel
theorem dX11_points_27 : decode cX11_points 27 = .ok (.ifCond .eq 13, 3) := by decide +kernel
theorem dX11_points_30 : decode cX11_points 30 = .ok (.aload_n 0, 1) := by decide +kernel
theorem dX11_points_31 : decode cX11_points 31 = .ok (.iload_n 1, 1) := by decide +kernel
theorem dX11_points_32 : decode cX11_points 32 = .ok (.iload_n 2, 1) := by decide +kernel
theorem dX11_points_33 : decode cX11_points 33 = .ok (.iload_n 3, 1) := by decide +kernel
theorem dX11_points_34 : decode cX11_points 34 = .ok (.invokevirtual 183, 3) := by decide +kernel
theorem dX11_points_37 : decode cX11_points 37 = .ok (.goto 4, 3) := by decide +kernel
theorem dX11_points_40 : decode cX11_points 40 = .ok (.iconst (-1), 1) := by decide +kernel
theorem dX11_points_41 : decode cX11_points 41 = .ok (.ireturn, 1) := by decide +kernel
set_option maxRecDepth 20000 in
theorem ggX11_areThree_X11_isJudge : GoodIn wsX11_areThree wsX11_isJudge := goodIn_r _ [5, 6, 7, 8, 4, 9, 10, 11, 12, 13, 14, 15, 16, 17, 18, 19, 20, 21, 22, 23, 24, 25, 26, 27, 28, 29, 30, 31, 32, 33] (by decide +kernel) (by decide +kernel)
set_option maxRecDepth 20000 in
theorem gX11_areThree_X11_isJudge : GoodIn wsX11_areThree (wsV RX11 149 RX11 yX11_isJudge wsX11_isJudge) := goodIn_app (goodIn_of _ (by decide +kernel)) ggX11_areThree_X11_isJudge
theorem dX11_areThree_0 : decode cX11_areThree 0 = .ok (.aload_n 0, 1) := by decide +kernel
theorem dX11_areThree_1 : decode cX11_areThree 1 = .ok (.iload_n 1, 1) := by decide +kernel
theorem dX11_areThree_2 : decode cX11_areThree 2 = .ok (.invokevirtual 149, 3) := by decide +kernel
theorem dX11_areThree_5 : decode cX11_areThree 5 = .ok (.ifCond .eq 38, 3) := by decide +kernel
theorem dX11_areThree_8 : decode cX11_areThree 8 = .ok (.aload_n 0, 1) := by decide +kernel
theorem dX11_areThree_9 : decode cX11_areThree 9 = .ok (.iload_n 2, 1) := by decide +kernel
theorem dX11_areThree_10 : decode cX11_areThree 10 = .ok (.invokevirtual 149, 3) := by decide +kernel
theorem dX11_areThree_13 : decode cX11_areThree 13 = .ok (.ifCond .eq 30, 3) := by decide +kernel
theorem dX11_areThree_16 : decode cX11_areThree 16 = .ok (.aload_n 0, 1) := by decide +kernel
theorem dX11_areThree_17 : decode cX11_areThree 17 = .ok (.iload_n 3, 1) := by decide +kernel
theorem dX11_areThree_18 : decode cX11_areThree 18 = .ok (.invokevirtual 149, 3) := by decide +kernel
theorem dX11_areThree_21 : decode cX11_areThree 21 = .ok (.ifCond .eq 22, 3) := by decide +kernel
theorem dX11_areThree_24 : decode cX11_areThree 24 = .ok (.iload_n 1, 1) := by decide +kernel
theorem dX11_areThree_25 : decode cX11_areThree 25 = .ok (.iload_n 2, 1) := by decide +kernel
theorem dX11_areThree_26 : decode cX11_areThree 26 = .ok (.if_icmp .eq 17, 3) := by decide +kernel
theorem dX11_areThree_29 : decode cX11_areThree 29 = .ok (.iload_n 1, 1) := by decide +kernel
theorem dX11_areThree_30 : decode cX11_areThree 30 = .ok (.iload_n 3, 1) := by decide +kernel
theorem dX11_areThree_31 : decode cX11_areThree 31 = .ok (.if_icmp .eq 12, 3) := by decide +kernel
theorem dX11_areThree_34 : decode cX11_areThree 34 = .ok (.iload_n 2, 1) := by decide +kernel
theorem dX11_areThree_35 : decode cX11_areThree 35 = .ok (.iload_n 3, 1) := by decide +kernel
theorem dX11_areThree_36 : decode cX11_areThree 36 = .ok (.if_icmp .eq 7, 3) := by decide +kernel
theorem dX11_areThree_39 : decode cX11_areThree 39 = .ok (.iconst 1, 1) := by decide +kernel
theorem dX11_areThree_40 : decode cX11_areThree 40 = .ok (.goto 4, 3) := by decide +kernel
theorem dX11_areThree_43 : decode cX11_areThree 43 = .ok (.iconst 0, 1) := by decide +kernel
theorem dX11_areThree_44 : decode cX11_areThree 44 = .ok (.ireturn, 1) := by decide +kernel
theorem dX11_sign_0 : decode cX11_sign 0 = .ok (.iload_n 0, 1) := by decide +kernel
theorem dX11_sign_1 : decode cX11_sign 1 = .ok (.ifCond .le 7, 3) := by decide +kernel
theorem dX11_sign_4 : decode cX11_sign 4 = .ok (.iconst 1, 1) := by decide +kernel
theorem dX11_sign_5 : decode cX11_sign 5 = .ok (.goto 12, 3) := by decide +kernel
theorem dX11_sign_8 : decode cX11_sign 8 = .ok (.iload_n 0, 1) := by decide +kernel
theorem dX11_sign_9 : decode cX11_sign 9 = .ok (.ifCond .ge 7, 3) := by decide +kernel
theorem dX11_sign_12 : decode cX11_sign 12 = .ok (.iconst (-1), 1) := by decide +kernel
theorem dX11_sign_13 : decode cX11_sign 13 = .ok (.goto 4, 3) := by decide +kernel
theorem dX11_sign_16 : decode cX11_sign 16 = .ok (.iconst 0, 1) := by decide +kernel
theorem dX11_sign_17 : decode cX11_sign 17 = .ok (.ireturn, 1) := by decide +kernel
theorem dX11_whoBy_0 : decode cX11_whoBy 0 = .ok (.iload_n 0, 1) := by decide +kernel
theorem dX11_whoBy_1 : decode cX11_whoBy 1 = .ok (.ifCond .le 7, 3) := by decide +kernel
theorem dX11_whoBy_4 : decode cX11_whoBy 4 = .ok (.iconst 1, 1) := by decide +kernel
theorem dX11_whoBy_5 : decode cX11_whoBy 5 = .ok (.goto 4, 3) := by decide +kernel
theorem dX11_whoBy_8 : decode cX11_whoBy 8 = .ok (.iconst 0, 1) := by decide +kernel
theorem dX11_whoBy_9 : decode cX11_whoBy 9 = .ok (.iload_n 1, 1) := by decide +kernel
theorem dX11_whoBy_10 : decode cX11_whoBy 10 = .ok (.ifCond .le 7, 3) := by decide +kernel
theorem dX11_whoBy_13 : decode cX11_whoBy 13 = .ok (.iconst 1, 1) := by decide +kernel
theorem dX11_whoBy_14 : decode cX11_whoBy 14 = .ok (.goto 4, 3) := by decide +kernel
theorem dX11_whoBy_17 : decode cX11_whoBy 17 = .ok (.iconst 0, 1) := by decide +kernel
theorem dX11_whoBy_18 : decode cX11_whoBy 18 = .ok (.iadd, 1) := by decide +kernel
theorem dX11_whoBy_19 : decode cX11_whoBy 19 = .ok (.iload_n 2, 1) := by decide +kernel
theorem dX11_whoBy_20 : decode cX11_whoBy 20 = .ok (.ifCond .le 7, 3) := by decide +kernel
theorem dX11_whoBy_23 : decode cX11_whoBy 23 = .ok (.iconst 1, 1) := by decide +kernel
theorem dX11_whoBy_24 : decode cX11_whoBy 24 = .ok (.goto 4, 3) := by decide +kernel
theorem dX11_whoBy_27 : decode cX11_whoBy 27 = .ok (.iconst 0, 1) := by decide +kernel
theorem dX11_whoBy_28 : decode cX11_whoBy 28 = .ok (.iadd, 1) := by decide +kernel
theorem dX11_whoBy_29 : decode cX11_whoBy 29 = .ok (.istore_n 3, 1) := by decide +kernel
theorem dX11_whoBy_30 : decode cX11_whoBy 30 = .ok (.iload_n 0, 1) := by decide +kernel
theorem dX11_whoBy_31 : decode cX11_whoBy 31 = .ok (.ifCond .ge 7, 3) := by decide +kernel
theorem dX11_whoBy_34 : decode cX11_whoBy 34 = .ok (.iconst 1, 1) := by decide +kernel
theorem dX11_whoBy_35 : decode cX11_whoBy 35 = .ok (.goto 4, 3) := by decide +kernel
theorem dX11_whoBy_38 : decode cX11_whoBy 38 = .ok (.iconst 0, 1) := by decide +kernel
theorem dX11_whoBy_39 : decode cX11_whoBy 39 = .ok (.iload_n 1, 1) := by decide +kernel
theorem dX11_whoBy_40 : decode cX11_whoBy 40 = .ok (.ifCond .ge 7, 3) := by decide +kernel
theorem dX11_whoBy_43 : decode cX11_whoBy 43 = .ok (.iconst 1, 1) := by decide +kernel
theorem dX11_whoBy_44 : decode cX11_whoBy 44 = .ok (.goto 4, 3) := by decide +kernel
theorem dX11_whoBy_47 : decode cX11_whoBy 47 = .ok (.iconst 0, 1) := by decide +kernel
theorem dX11_whoBy_48 : decode cX11_whoBy 48 = .ok (.iadd, 1) := by decide +kernel
theorem dX11_whoBy_49 : decode cX11_whoBy 49 = .ok (.iload_n 2, 1) := by decide +kernel
theorem dX11_whoBy_50 : decode cX11_whoBy 50 = .ok (.ifCond .ge 7, 3) := by decide +kernel
theorem dX11_whoBy_53 : decode cX11_whoBy 53 = .ok (.iconst 1, 1) := by decide +kernel
theorem dX11_whoBy_54 : decode cX11_whoBy 54 = .ok (.goto 4, 3) := by decide +kernel
theorem dX11_whoBy_57 : decode cX11_whoBy 57 = .ok (.iconst 0, 1) := by decide +kernel
theorem dX11_whoBy_58 : decode cX11_whoBy 58 = .ok (.iadd, 1) := by decide +kernel
theorem dX11_whoBy_59 : decode cX11_whoBy 59 = .ok (.istore 4, 2) := by decide +kernel
theorem dX11_whoBy_61 : decode cX11_whoBy 61 = .ok (.iload_n 3, 1) := by decide +kernel
theorem dX11_whoBy_62 : decode cX11_whoBy 62 = .ok (.iconst 1, 1) := by decide +kernel
theorem dX11_whoBy_63 : decode cX11_whoBy 63 = .ok (.if_icmp .le 7, 3) := by decide +kernel
theorem dX11_whoBy_66 : decode cX11_whoBy 66 = .ok (.iconst 0, 1) := by decide +kernel
theorem dX11_whoBy_67 : decode cX11_whoBy 67 = .ok (.goto 14, 3) := by decide +kernel
theorem dX11_whoBy_70 : decode cX11_whoBy 70 = .ok (.iload 4, 2) := by decide +kernel
theorem dX11_whoBy_72 : decode cX11_whoBy 72 = .ok (.iconst 1, 1) := by decide +kernel
theorem dX11_whoBy_73 : decode cX11_whoBy 73 = .ok (.if_icmp .le 7, 3) := by decide +kernel
theorem dX11_whoBy_76 : decode cX11_whoBy 76 = .ok (.iconst 1, 1) := by decide +kernel
theorem dX11_whoBy_77 : decode cX11_whoBy 77 = .ok (.goto 4, 3) := by decide +kernel
theorem dX11_whoBy_80 : decode cX11_whoBy 80 = .ok (.iconst 2, 1) := by decide +kernel
theorem dX11_whoBy_81 : decode cX11_whoBy 81 = .ok (.ireturn, 1) := by decide +kernel
set_option maxRecDepth 20000 in
theorem ggX11_kindBy_X11_whoBy : GoodIn wsX11_kindBy wsX11_whoBy := goodIn_r _ [4] (by decide +kernel) (by decide +kernel)
set_option maxRecDepth 20000 in
theorem gX11_kindBy_X11_whoBy : GoodIn wsX11_kindBy (va_wsS RX11 186 yX11_whoBy wsX11_whoBy) := goodIn_app (goodIn_of _ (by decide +kernel)) ggX11_kindBy_X11_whoBy
set_option maxRecDepth 20000 in
theorem ggX11_kindBy_X11_sign : GoodIn wsX11_kindBy wsX11_sign := goodIn_r _ [7] (by decide +kernel) (by decide +kernel)
set_option maxRecDepth 20000 in
theorem gX11_kindBy_X11_sign : GoodIn wsX11_kindBy (va_wsS RX11 189 yX11_sign wsX11_sign) := goodIn_app (goodIn_of _ (by decide +kernel)) ggX11_kindBy_X11_sign
theorem dX11_kindBy_0 : decode cX11_kindBy 0 = .ok (.iload_n 0, 1) := by decide +kernel
theorem dX11_kindBy_1 : decode cX11_kindBy 1 = .ok (.iload_n 1, 1) := by decide +kernel
theorem dX11_kindBy_2 : decode cX11_kindBy 2 = .ok (.iload_n 2, 1) := by decide +kernel
theorem dX11_kindBy_3 : decode cX11_kindBy 3 = .ok (.invokestatic 186, 3) := by decide +kernel
theorem dX11_kindBy_6 : decode cX11_kindBy 6 = .ok (.istore_n 3, 1) := by decide +kernel
theorem dX11_kindBy_7 : decode cX11_kindBy 7 = .ok (.iload_n 0, 1) := by decide +kernel
theorem dX11_kindBy_8 : decode cX11_kindBy 8 = .ok (.ifCond .ne 7, 3) := by decide +kernel
theorem dX11_kindBy_11 : decode cX11_kindBy 11 = .ok (.iconst 1, 1) := by decide +kernel
theorem dX11_kindBy_12 : decode cX11_kindBy 12 = .ok (.goto 4, 3) := by decide +kernel
theorem dX11_kindBy_15 : decode cX11_kindBy 15 = .ok (.iconst 0, 1) := by decide +kernel
theorem dX11_kindBy_16 : decode cX11_kindBy 16 = .ok (.iload_n 1, 1) := by decide +kernel
theorem dX11_kindBy_17 : decode cX11_kindBy 17 = .ok (.ifCond .ne 7, 3) := by decide +kernel
theorem dX11_kindBy_20 : decode cX11_kindBy 20 = .ok (.iconst 1, 1) := by decide +kernel
theorem dX11_kindBy_21 : decode cX11_kindBy 21 = .ok (.goto 4, 3) := by decide +kernel
theorem dX11_kindBy_24 : decode cX11_kindBy 24 = .ok (.iconst 0, 1) := by decide +kernel
theorem dX11_kindBy_25 : decode cX11_kindBy 25 = .ok (.iadd, 1) := by decide +kernel
theorem dX11_kindBy_26 : decode cX11_kindBy 26 = .ok (.iload_n 2, 1) := by decide +kernel
theorem dX11_kindBy_27 : decode cX11_kindBy 27 = .ok (.ifCond .ne 7, 3) := by decide +kernel
theorem dX11_kindBy_30 : decode cX11_kindBy 30 = .ok (.iconst 1, 1) := by decide +kernel
theorem dX11_kindBy_31 : decode cX11_kindBy 31 = .ok (.goto 4, 3) := by decide +kernel
theorem dX11_kindBy_34 : decode cX11_kindBy 34 = .ok (.iconst 0, 1) := by decide +kernel
theorem dX11_kindBy_35 : decode cX11_kindBy 35 = .ok (.iadd, 1) := by decide +kernel
theorem dX11_kindBy_36 : decode cX11_kindBy 36 = .ok (.istore 4, 2) := by decide +kernel
theorem dX11_kindBy_38 : decode cX11_kindBy 38 = .ok (.iload 4, 2) := by decide +kernel
theorem dX11_kindBy_40 : decode cX11_kindBy 40 = .ok (.iconst 3, 1) := by decide +kernel
theorem dX11_kindBy_41 : decode cX11_kindBy 41 = .ok (.if_icmp .eq 25, 3) := by decide +kernel
theorem dX11_kindBy_44 : decode cX11_kindBy 44 = .ok (.iload_n 0, 1) := by decide +kernel
theorem dX11_kindBy_45 : decode cX11_kindBy 45 = .ok (.invokestatic 189, 3) := by decide +kernel
theorem dX11_kindBy_48 : decode cX11_kindBy 48 = .ok (.iload_n 1, 1) := by decide +kernel
theorem dX11_kindBy_49 : decode cX11_kindBy 49 = .ok (.invokestatic 189, 3) := by decide +kernel
theorem dX11_kindBy_52 : decode cX11_kindBy 52 = .ok (.if_icmp .ne 16, 3) := by decide +kernel
theorem dX11_kindBy_55 : decode cX11_kindBy 55 = .ok (.iload_n 1, 1) := by decide +kernel
theorem dX11_kindBy_56 : decode cX11_kindBy 56 = .ok (.invokestatic 189, 3) := by decide +kernel
theorem dX11_kindBy_59 : decode cX11_kindBy 59 = .ok (.iload_n 2, 1) := by decide +kernel
theorem dX11_kindBy_60 : decode cX11_kindBy 60 = .ok (.invokestatic 189, 3) := by decide +kernel
theorem dX11_kindBy_63 : decode cX11_kindBy 63 = .ok (.if_icmp .ne 5, 3) := by decide +kernel
theorem dX11_kindBy_66 : decode cX11_kindBy 66 = .ok (.iconst 0, 1) := by decide +kernel
theorem dX11_kindBy_67 : decode cX11_kindBy 67 = .ok (.ireturn, 1) := by decide +kernel
theorem dX11_kindBy_68 : decode cX11_kindBy 68 = .ok (.iload_n 3, 1) := by decide +kernel
theorem dX11_kindBy_69 : decode cX11_kindBy 69 = .ok (.iconst 2, 1) := by decide +kernel
theorem dX11_kindBy_70 : decode cX11_kindBy 70 = .ok (.if_icmp .ne 7, 3) := by decide +kernel
theorem dX11_kindBy_73 : decode cX11_kindBy 73 = .ok (.iconst 3, 1) := by decide +kernel
theorem dX11_kindBy_74 : decode cX11_kindBy 74 = .ok (.goto 14, 3) := by decide +kernel
theorem dX11_kindBy_77 : decode cX11_kindBy 77 = .ok (.iload 4, 2) := by decide +kernel
theorem dX11_kindBy_79 : decode cX11_kindBy 79 = .ok (.iconst 1, 1) := by decide +kernel
theorem dX11_kindBy_80 : decode cX11_kindBy 80 = .ok (.if_icmp .ne 7, 3) := by decide +kernel
theorem dX11_kindBy_83 : decode cX11_kindBy 83 = .ok (.iconst 1, 1) := by decide +kernel
theorem dX11_kindBy_84 : decode cX11_kindBy 84 = .ok (.goto 4, 3) := by decide +kernel
theorem dX11_kindBy_87 : decode cX11_kindBy 87 = .ok (.iconst 2, 1) := by decide +kernel
theorem dX11_kindBy_88 : decode cX11_kindBy 88 = .ok (.ireturn, 1) := by decide +kernel
set_option maxRecDepth 20000 in
theorem ggX11_end_X11_isRule : GoodIn wsX11_end wsX11_isRule := goodIn_r _ [4, 5, 6, 7, 3, 8] (by decide +kernel) (by decide +kernel)
set_option maxRecDepth 20000 in
theorem gX11_end_X11_isRule : GoodIn wsX11_end (va_wsS RX11 168 yX11_isRule wsX11_isRule) := goodIn_app (goodIn_of _ (by decide +kernel)) ggX11_end_X11_isRule
set_option maxRecDepth 20000 in
theorem ggX11_end_X11_areThree : GoodIn wsX11_end wsX11_areThree := goodIn_r _ [12, 13, 14, 15, 3, 16, 17, 6, 7, 8, 78, 79, 80, 81, 82, 83, 84, 85, 86, 87, 88, 89, 90, 91, 92, 93, 94, 95, 96, 97, 98, 99, 100, 101] (by decide +kernel) (by decide +kernel)
set_option maxRecDepth 20000 in
theorem gX11_end_X11_areThree : GoodIn wsX11_end (wsV RX11 192 RX11 yX11_areThree wsX11_areThree) := goodIn_app (goodIn_of _ (by decide +kernel)) ggX11_end_X11_areThree
set_option maxRecDepth 20000 in
theorem ggX11_end_X11_in : GoodIn wsX11_end wsX11_in := goodIn_r _ [8] (by decide +kernel) (by decide +kernel)
set_option maxRecDepth 20000 in
theorem gX11_end_X11_in : GoodIn wsX11_end (va_wsS RX11 80 yX11_in wsX11_in) := goodIn_app (goodIn_of _ (by decide +kernel)) ggX11_end_X11_in
set_option maxRecDepth 20000 in
theorem ggX11_end_X11_cardOf : GoodIn wsX11_end wsX11_cardOf := goodIn_r _ [21, 22, 23, 24, 25, 3, 26, 27, 28, 29, 30, 31, 32, 33, 34, 35, 36, 37, 38, 39, 40, 41, 42, 43, 44, 45, 46, 47, 48, 49, 50, 51, 52, 53, 54, 55, 56, 57, 58, 59, 60, 61, 62, 63, 64, 6, 7, 8, 65, 66, 67, 68, 78, 79, 80, 81, 82, 83, 84, 85, 86, 87, 88, 89, 90, 91, 92, 93, 94, 95, 96, 97, 98, 99, 100, 101] (by decide +kernel) (by decide +kernel)
set_option maxRecDepth 20000 in
theorem gX11_end_X11_cardOf : GoodIn wsX11_end (wsV RX11 178 RX11 yX11_cardOf wsX11_cardOf) := goodIn_app (goodIn_of _ (by decide +kernel)) ggX11_end_X11_cardOf
set_option maxRecDepth 20000 in
theorem ggX11_end_X11_whoBy : GoodIn wsX11_end wsX11_whoBy := goodIn_r _ [71] (by decide +kernel) (by decide +kernel)
set_option maxRecDepth 20000 in
theorem gX11_end_X11_whoBy : GoodIn wsX11_end (va_wsS RX11 186 yX11_whoBy wsX11_whoBy) := goodIn_app (goodIn_of _ (by decide +kernel)) ggX11_end_X11_whoBy
set_option maxRecDepth 20000 in
theorem ggX11_end_X11_kindBy : GoodIn wsX11_end wsX11_kindBy := goodIn_r _ [74, 69, 70, 3, 71, 75, 76, 77] (by decide +kernel) (by decide +kernel)
set_option maxRecDepth 20000 in
theorem gX11_end_X11_kindBy : GoodIn wsX11_end (va_wsS RX11 196 yX11_kindBy wsX11_kindBy) := goodIn_app (goodIn_of _ (by decide +kernel)) ggX11_end_X11_kindBy
theorem dX11_end_0 : decode cX11_end 0 = .ok (.iload_n 1, 1) := by decide +kernel
theorem dX11_end_1 : decode cX11_end 1 = .ok (.invokestatic 168, 3) := by decide +kernel
theorem dX11_end_4 : decode cX11_end 4 = .ok (.ifCond .eq 25, 3) := by decide +kernel
theorem dX11_end_7 : decode cX11_end 7 = .ok (.aload_n 0, 1) := by decide +kernel
theorem dX11_end_8 : decode cX11_end 8 = .ok (.iload_n 2, 1) := by decide +kernel
theorem dX11_end_9 : decode cX11_end 9 = .ok (.iload_n 3, 1) := by decide +kernel
theorem dX11_end_10 : decode cX11_end 10 = .ok (.iload 4, 2) := by decide +kernel
theorem dX11_end_12 : decode cX11_end 12 = .ok (.invokevirtual 192, 3) := by decide +kernel
theorem dX11_end_15 : decode cX11_end 15 = .ok (.ifCond .eq 14, 3) := by decide +kernel
theorem dX11_end_18 : decode cX11_end 18 = .ok (.iload 5, 2) := by decide +kernel
theorem dX11_end_20 : decode cX11_end 20 = .ok (.i2l, 1) := by decide +kernel
theorem dX11_end_21 : decode cX11_end 21 = .ok (.lconst 0, 1) := by decide +kernel
theorem dX11_end_22 : decode cX11_end 22 = .ok (.lconst 1, 1) := by decide +kernel
theorem dX11_end_23 : decode cX11_end 23 = .ok (.invokestatic 80, 3) := by decide +kernel
theorem dX11_end_26 : decode cX11_end 26 = .ok (.ifCond .ne 5, 3) := by decide +kernel
theorem dX11_end_29 : decode cX11_end 29 = .ok (.iconst (-1), 1) := by decide +kernel
theorem dX11_end_30 : decode cX11_end 30 = .ok (.ireturn, 1) := by decide +kernel
theorem dX11_end_31 : decode cX11_end 31 = .ok (.aload_n 0, 1) := by decide +kernel
theorem dX11_end_32 : decode cX11_end 32 = .ok (.iload_n 1, 1) := by decide +kernel
theorem dX11_end_33 : decode cX11_end 33 = .ok (.iload_n 2, 1) := by decide +kernel
theorem dX11_end_34 : decode cX11_end 34 = .ok (.invokevirtual 178, 3) := by decide +kernel
theorem dX11_end_37 : decode cX11_end 37 = .ok (.istore 6, 2) := by decide +kernel
theorem dX11_end_39 : decode cX11_end 39 = .ok (.aload_n 0, 1) := by decide +kernel
theorem dX11_end_40 : decode cX11_end 40 = .ok (.iload_n 1, 1) := by decide +kernel
theorem dX11_end_41 : decode cX11_end 41 = .ok (.iload_n 3, 1) := by decide +kernel
theorem dX11_end_42 : decode cX11_end 42 = .ok (.invokevirtual 178, 3) := by decide +kernel
theorem dX11_end_45 : decode cX11_end 45 = .ok (.istore 7, 2) := by decide +kernel
theorem dX11_end_47 : decode cX11_end 47 = .ok (.aload_n 0, 1) := by decide +kernel
theorem dX11_end_48 : decode cX11_end 48 = .ok (.iload_n 1, 1) := by decide +kernel
theorem dX11_end_49 : decode cX11_end 49 = .ok (.iload 4, 2) := by decide +kernel
theorem dX11_end_51 : decode cX11_end 51 = .ok (.invokevirtual 178, 3) := by decide +kernel
theorem dX11_end_54 : decode cX11_end 54 = .ok (.istore 8, 2) := by decide +kernel
theorem dX11_end_56 : decode cX11_end 56 = .ok (.iload 5, 2) := by decide +kernel
theorem dX11_end_58 : decode cX11_end 58 = .ok (.ifCond .ne 15, 3) := by decide +kernel
theorem dX11_end_61 : decode cX11_end 61 = .ok (.iload 6, 2) := by decide +kernel
theorem dX11_end_63 : decode cX11_end 63 = .ok (.iload 7, 2) := by decide +kernel
theorem dX11_end_65 : decode cX11_end 65 = .ok (.iload 8, 2) := by decide +kernel
theorem dX11_end_67 : decode cX11_end 67 = .ok (.invokestatic 186, 3) := by decide +kernel
theorem dX11_end_70 : decode cX11_end 70 = .ok (.goto 12, 3) := by decide +kernel
theorem dX11_end_73 : decode cX11_end 73 = .ok (.iload 6, 2) := by decide +kernel
theorem dX11_end_75 : decode cX11_end 75 = .ok (.iload 7, 2) := by decide +kernel
theorem dX11_end_77 : decode cX11_end 77 = .ok (.iload 8, 2) := by decide +kernel
theorem dX11_end_79 : decode cX11_end 79 = .ok (.invokestatic 196, 3) := by decide +kernel
theorem dX11_end_82 : decode cX11_end 82 = .ok (.ireturn, 1) := by decide +kernel
set_option maxRecDepth 20000 in
theorem ggX11_others_X11_isRule : GoodIn wsX11_others wsX11_isRule := goodIn_r _ [6, 7, 8, 9, 5, 10] (by decide +kernel) (by decide +kernel)
set_option maxRecDepth 20000 in
theorem gX11_others_X11_isRule : GoodIn wsX11_others (va_wsS RX11 168 yX11_isRule wsX11_isRule) := goodIn_app (goodIn_of _ (by decide +kernel)) ggX11_others_X11_isRule
set_option maxRecDepth 20000 in
theorem ggX11_others_X11_in : GoodIn wsX11_others wsX11_in := goodIn_r _ [10] (by decide +kernel) (by decide +kernel)
set_option maxRecDepth 20000 in
theorem gX11_others_X11_in : GoodIn wsX11_others (va_wsS RX11 80 yX11_in wsX11_in) := goodIn_app (goodIn_of _ (by decide +kernel)) ggX11_others_X11_in
set_option maxRecDepth 20000 in
theorem ggX11_others_X11_cardOf : GoodIn wsX11_others wsX11_cardOf := goodIn_r _ [14, 15, 16, 17, 18, 5, 19, 20, 21, 22, 23, 24, 25, 26, 27, 28, 29, 30, 31, 32, 33, 34, 35, 36, 37, 38, 39, 40, 41, 42, 43, 44, 45, 46, 47, 48, 49, 50, 51, 52, 53, 54, 55, 56, 57, 8, 9, 10, 58, 59, 60, 61, 65, 66, 67, 68, 69, 70, 71, 72, 73, 74, 75, 76, 77, 78, 79, 80, 81, 82, 83, 84, 85, 86, 87, 88] (by decide +kernel) (by decide +kernel)
set_option maxRecDepth 20000 in
theorem gX11_others_X11_cardOf : GoodIn wsX11_others (wsV RX11 178 RX11 yX11_cardOf wsX11_cardOf) := goodIn_app (goodIn_of _ (by decide +kernel)) ggX11_others_X11_cardOf
set_option maxRecDepth 20000 in
theorem ggX11_others_X11_whoBy : GoodIn wsX11_others wsX11_whoBy := goodIn_r _ [64] (by decide +kernel) (by decide +kernel)
set_option maxRecDepth 20000 in
theorem gX11_others_X11_whoBy : GoodIn wsX11_others (va_wsS RX11 186 yX11_whoBy wsX11_whoBy) := goodIn_app (goodIn_of _ (by decide +kernel)) ggX11_others_X11_whoBy
theorem dX11_others_0 : decode cX11_others 0 = .ok (.iload_n 1, 1) := by decide +kernel
theorem dX11_others_1 : decode cX11_others 1 = .ok (.invokestatic 168, 3) := by decide +kernel
theorem dX11_others_4 : decode cX11_others 4 = .ok (.ifCond .eq 15, 3) := by decide +kernel
theorem dX11_others_7 : decode cX11_others 7 = .ok (.iload_n 2, 1) := by decide +kernel
theorem dX11_others_8 : decode cX11_others 8 = .ok (.i2l, 1) := by decide +kernel
theorem dX11_others_9 : decode cX11_others 9 = .ok (.lconst 0, 1) := by decide +kernel
theorem dX11_others_10 : decode cX11_others 10 = .ok (.ldc2_w 181, 3) := by decide +kernel
theorem dX11_others_13 : decode cX11_others 13 = .ok (.invokestatic 80, 3) := by decide +kernel
theorem dX11_others_16 : decode cX11_others 16 = .ok (.ifCond .ne 5, 3) := by decide +kernel
theorem dX11_others_19 : decode cX11_others 19 = .ok (.iconst (-1), 1) := by decide +kernel
theorem dX11_others_20 : decode cX11_others 20 = .ok (.ireturn, 1) := by decide +kernel
theorem dX11_others_21 : decode cX11_others 21 = .ok (.iconst 0, 1) := by decide +kernel
theorem dX11_others_22 : decode cX11_others 22 = .ok (.istore_n 3, 1) := by decide +kernel
theorem dX11_others_23 : decode cX11_others 23 = .ok (.iconst 0, 1) := by decide +kernel
theorem dX11_others_24 : decode cX11_others 24 = .ok (.istore 4, 2) := by decide +kernel
theorem dX11_others_26 : decode cX11_others 26 = .ok (.iload 4, 2) := by decide +kernel
theorem dX11_others_28 : decode cX11_others 28 = .ok (.aload_n 0, 1) := by decide +kernel
theorem dX11_others_29 : decode cX11_others 29 = .ok (.getfield 37, 3) := by decide +kernel
theorem dX11_others_32 : decode cX11_others 32 = .ok (.iconst 0, 1) := by decide +kernel
theorem dX11_others_33 : decode cX11_others 33 = .ok (.iaload, 1) := by decide +kernel
theorem dX11_others_34 : decode cX11_others 34 = .ok (.if_icmp .ge 91, 3) := by decide +kernel
theorem dX11_others_37 : decode cX11_others 37 = .ok (.iload 4, 2) := by decide +kernel
theorem dX11_others_39 : decode cX11_others 39 = .ok (.iconst 1, 1) := by decide +kernel
theorem dX11_others_40 : decode cX11_others 40 = .ok (.iadd, 1) := by decide +kernel
theorem dX11_others_41 : decode cX11_others 41 = .ok (.istore 5, 2) := by decide +kernel
theorem dX11_others_43 : decode cX11_others 43 = .ok (.iload 5, 2) := by decide +kernel
theorem dX11_others_45 : decode cX11_others 45 = .ok (.aload_n 0, 1) := by decide +kernel
theorem dX11_others_46 : decode cX11_others 46 = .ok (.getfield 37, 3) := by decide +kernel
theorem dX11_others_49 : decode cX11_others 49 = .ok (.iconst 0, 1) := by decide +kernel
theorem dX11_others_50 : decode cX11_others 50 = .ok (.iaload, 1) := by decide +kernel
theorem dX11_others_51 : decode cX11_others 51 = .ok (.if_icmp .ge 68, 3) := by decide +kernel
theorem dX11_others_54 : decode cX11_others 54 = .ok (.iload 5, 2) := by decide +kernel
theorem dX11_others_56 : decode cX11_others 56 = .ok (.iconst 1, 1) := by decide +kernel
theorem dX11_others_57 : decode cX11_others 57 = .ok (.iadd, 1) := by decide +kernel
theorem dX11_others_58 : decode cX11_others 58 = .ok (.istore 6, 2) := by decide +kernel
theorem dX11_others_60 : decode cX11_others 60 = .ok (.iload 6, 2) := by decide +kernel
theorem dX11_others_62 : decode cX11_others 62 = .ok (.aload_n 0, 1) := by decide +kernel
theorem dX11_others_63 : decode cX11_others 63 = .ok (.getfield 37, 3) := by decide +kernel
theorem dX11_others_66 : decode cX11_others 66 = .ok (.iconst 0, 1) := by decide +kernel
theorem dX11_others_67 : decode cX11_others 67 = .ok (.iaload, 1) := by decide +kernel
theorem dX11_others_68 : decode cX11_others 68 = .ok (.if_icmp .ge 45, 3) := by decide +kernel
theorem dX11_others_71 : decode cX11_others 71 = .ok (.iload_n 3, 1) := by decide +kernel
theorem dX11_others_72 : decode cX11_others 72 = .ok (.aload_n 0, 1) := by decide +kernel
theorem dX11_others_73 : decode cX11_others 73 = .ok (.iload_n 1, 1) := by decide +kernel
theorem dX11_others_74 : decode cX11_others 74 = .ok (.iload 4, 2) := by decide +kernel
theorem dX11_others_76 : decode cX11_others 76 = .ok (.invokevirtual 178, 3) := by decide +kernel
theorem dX11_others_79 : decode cX11_others 79 = .ok (.aload_n 0, 1) := by decide +kernel
theorem dX11_others_80 : decode cX11_others 80 = .ok (.iload_n 1, 1) := by decide +kernel
theorem dX11_others_81 : decode cX11_others 81 = .ok (.iload 5, 2) := by decide +kernel
theorem dX11_others_83 : decode cX11_others 83 = .ok (.invokevirtual 178, 3) := by decide +kernel
theorem dX11_others_86 : decode cX11_others 86 = .ok (.aload_n 0, 1) := by decide +kernel
theorem dX11_others_87 : decode cX11_others 87 = .ok (.iload_n 1, 1) := by decide +kernel
theorem dX11_others_88 : decode cX11_others 88 = .ok (.iload 6, 2) := by decide +kernel
theorem dX11_others_90 : decode cX11_others 90 = .ok (.invokevirtual 178, 3) := by decide +kernel
theorem dX11_others_93 : decode cX11_others 93 = .ok (.invokestatic 186, 3) := by decide +kernel
theorem dX11_others_96 : decode cX11_others 96 = .ok (.iload_n 2, 1) := by decide +kernel
theorem dX11_others_97 : decode cX11_others 97 = .ok (.if_icmp .ne 7, 3) := by decide +kernel
theorem dX11_others_100 : decode cX11_others 100 = .ok (.iconst 1, 1) := by decide +kernel
theorem dX11_others_101 : decode cX11_others 101 = .ok (.goto 4, 3) := by decide +kernel
theorem dX11_others_104 : decode cX11_others 104 = .ok (.iconst 0, 1) := by decide +kernel
theorem dX11_others_105 : decode cX11_others 105 = .ok (.iadd, 1) := by decide +kernel
theorem dX11_others_106 : decode cX11_others 106 = .ok (.istore_n 3, 1) := by decide +kernel
theorem dX11_others_107 : decode cX11_others 107 = .ok (.iinc 6 1, 3) := by decide +kernel
theorem dX11_others_110 : decode cX11_others 110 = .ok (.goto (-50), 3) := by decide +kernel
theorem dX11_others_113 : decode cX11_others 113 = .ok (.iinc 5 1, 3) := by decide +kernel
theorem dX11_others_116 : decode cX11_others 116 = .ok (.goto (-73), 3) := by decide +kernel
theorem dX11_others_119 : decode cX11_others 119 = .ok (.iinc 4 1, 3) := by decide +kernel
theorem dX11_others_122 : decode cX11_others 122 = .ok (.goto (-96), 3) := by decide +kernel
theorem dX11_others_125 : decode cX11_others 125 = .ok (.iload_n 3, 1) := by decide +kernel
theorem dX11_others_126 : decode cX11_others 126 = .ok (.ireturn, 1) := by decide +kernel
set_option maxRecDepth 20000 in
theorem ggX11_men_X11_isRule : GoodIn wsX11_men wsX11_isRule := goodIn_r _ [8, 9, 10, 11, 7, 12] (by decide +kernel) (by decide +kernel)
set_option maxRecDepth 20000 in
theorem gX11_men_X11_isRule : GoodIn wsX11_men (va_wsS RX11 168 yX11_isRule wsX11_isRule) := goodIn_app (goodIn_of _ (by decide +kernel)) ggX11_men_X11_isRule
set_option maxRecDepth 20000 in
theorem ggX11_men_X11_cardOf : GoodIn wsX11_men wsX11_cardOf := goodIn_r _ [16, 3, 17, 18, 19, 7, 20, 21, 22, 23, 24, 25, 26, 27, 28, 29, 30, 31, 32, 33, 34, 35, 1, 2, 36, 37, 38, 39, 40, 41, 42, 43, 44, 45, 46, 47, 48, 49, 50, 51, 52, 53, 54, 55, 56, 10, 11, 12, 57, 58, 59, 60, 64, 65, 66, 67, 68, 69, 70, 71, 72, 73, 74, 75, 76, 77, 78, 79, 80, 81, 82, 83, 84, 85, 86, 87] (by decide +kernel) (by decide +kernel)
set_option maxRecDepth 20000 in
theorem gX11_men_X11_cardOf : GoodIn wsX11_men (wsV RX11 178 RX11 yX11_cardOf wsX11_cardOf) := goodIn_app (goodIn_of _ (by decide +kernel)) ggX11_men_X11_cardOf
set_option maxRecDepth 20000 in
theorem ggX11_men_X11_sign : GoodIn wsX11_men wsX11_sign := goodIn_r _ [63] (by decide +kernel) (by decide +kernel)
set_option maxRecDepth 20000 in
theorem gX11_men_X11_sign : GoodIn wsX11_men (va_wsS RX11 189 yX11_sign wsX11_sign) := goodIn_app (goodIn_of _ (by decide +kernel)) ggX11_men_X11_sign
theorem dX11_men_0 : decode cX11_men 0 = .ok (.iload_n 1, 1) := by decide +kernel
theorem dX11_men_1 : decode cX11_men 1 = .ok (.invokestatic 168, 3) := by decide +kernel
theorem dX11_men_4 : decode cX11_men 4 = .ok (.ifCond .ne 5, 3) := by decide +kernel
theorem dX11_men_7 : decode cX11_men 7 = .ok (.iconst (-1), 1) := by decide +kernel
theorem dX11_men_8 : decode cX11_men 8 = .ok (.ireturn, 1) := by decide +kernel
theorem dX11_men_9 : decode cX11_men 9 = .ok (.iconst 0, 1) := by decide +kernel
theorem dX11_men_10 : decode cX11_men 10 = .ok (.istore_n 2, 1) := by decide +kernel
theorem dX11_men_11 : decode cX11_men 11 = .ok (.iconst 0, 1) := by decide +kernel
theorem dX11_men_12 : decode cX11_men 12 = .ok (.istore_n 3, 1) := by decide +kernel
theorem dX11_men_13 : decode cX11_men 13 = .ok (.iload_n 3, 1) := by decide +kernel
theorem dX11_men_14 : decode cX11_men 14 = .ok (.aload_n 0, 1) := by decide +kernel
theorem dX11_men_15 : decode cX11_men 15 = .ok (.getfield 16, 3) := by decide +kernel
theorem dX11_men_18 : decode cX11_men 18 = .ok (.iconst 0, 1) := by decide +kernel
theorem dX11_men_19 : decode cX11_men 19 = .ok (.iaload, 1) := by decide +kernel
theorem dX11_men_20 : decode cX11_men 20 = .ok (.if_icmp .ge 66, 3) := by decide +kernel
theorem dX11_men_23 : decode cX11_men 23 = .ok (.aload_n 0, 1) := by decide +kernel
theorem dX11_men_24 : decode cX11_men 24 = .ok (.getfield 19, 3) := by decide +kernel
theorem dX11_men_27 : decode cX11_men 27 = .ok (.iconst 5, 1) := by decide +kernel
theorem dX11_men_28 : decode cX11_men 28 = .ok (.iload_n 3, 1) := by decide +kernel
theorem dX11_men_29 : decode cX11_men 29 = .ok (.imul, 1) := by decide +kernel
theorem dX11_men_30 : decode cX11_men 30 = .ok (.iaload, 1) := by decide +kernel
theorem dX11_men_31 : decode cX11_men 31 = .ok (.aload_n 0, 1) := by decide +kernel
theorem dX11_men_32 : decode cX11_men 32 = .ok (.getfield 13, 3) := by decide +kernel
theorem dX11_men_35 : decode cX11_men 35 = .ok (.iconst 0, 1) := by decide +kernel
theorem dX11_men_36 : decode cX11_men 36 = .ok (.iaload, 1) := by decide +kernel
theorem dX11_men_37 : decode cX11_men 37 = .ok (.if_icmp .ge 16, 3) := by decide +kernel
theorem dX11_men_40 : decode cX11_men 40 = .ok (.aload_n 0, 1) := by decide +kernel
theorem dX11_men_41 : decode cX11_men 41 = .ok (.getfield 19, 3) := by decide +kernel
theorem dX11_men_44 : decode cX11_men 44 = .ok (.iconst 5, 1) := by decide +kernel
theorem dX11_men_45 : decode cX11_men 45 = .ok (.iload_n 3, 1) := by decide +kernel
theorem dX11_men_46 : decode cX11_men 46 = .ok (.imul, 1) := by decide +kernel
theorem dX11_men_47 : decode cX11_men 47 = .ok (.iconst 3, 1) := by decide +kernel
theorem dX11_men_48 : decode cX11_men 48 = .ok (.iadd, 1) := by decide +kernel
theorem dX11_men_49 : decode cX11_men 49 = .ok (.iaload, 1) := by decide +kernel
theorem dX11_men_50 : decode cX11_men 50 = .ok (.goto 4, 3) := by decide +kernel
theorem dX11_men_53 : decode cX11_men 53 = .ok (.iconst 0, 1) := by decide +kernel
theorem dX11_men_54 : decode cX11_men 54 = .ok (.istore 4, 2) := by decide +kernel
theorem dX11_men_56 : decode cX11_men 56 = .ok (.iload_n 2, 1) := by decide +kernel
theorem dX11_men_57 : decode cX11_men 57 = .ok (.aload_n 0, 1) := by decide +kernel
theorem dX11_men_58 : decode cX11_men 58 = .ok (.getfield 19, 3) := by decide +kernel
theorem dX11_men_61 : decode cX11_men 61 = .ok (.iconst 5, 1) := by decide +kernel
theorem dX11_men_62 : decode cX11_men 62 = .ok (.iload_n 3, 1) := by decide +kernel
theorem dX11_men_63 : decode cX11_men 63 = .ok (.imul, 1) := by decide +kernel
theorem dX11_men_64 : decode cX11_men 64 = .ok (.iconst 2, 1) := by decide +kernel
theorem dX11_men_65 : decode cX11_men 65 = .ok (.iadd, 1) := by decide +kernel
theorem dX11_men_66 : decode cX11_men 66 = .ok (.iaload, 1) := by decide +kernel
theorem dX11_men_67 : decode cX11_men 67 = .ok (.ifCond .ne 8, 3) := by decide +kernel
theorem dX11_men_70 : decode cX11_men 70 = .ok (.iload 4, 2) := by decide +kernel
theorem dX11_men_72 : decode cX11_men 72 = .ok (.goto 6, 3) := by decide +kernel
theorem dX11_men_75 : decode cX11_men 75 = .ok (.iload 4, 2) := by decide +kernel
theorem dX11_men_77 : decode cX11_men 77 = .ok (.ineg, 1) := by decide +kernel
theorem dX11_men_78 : decode cX11_men 78 = .ok (.iadd, 1) := by decide +kernel
theorem dX11_men_79 : decode cX11_men 79 = .ok (.istore_n 2, 1) := by decide +kernel
theorem dX11_men_80 : decode cX11_men 80 = .ok (.iinc 3 1, 3) := by decide +kernel
theorem dX11_men_83 : decode cX11_men 83 = .ok (.goto (-70), 3) := by decide +kernel
theorem dX11_men_86 : decode cX11_men 86 = .ok (.iconst 0, 1) := by decide +kernel
theorem dX11_men_87 : decode cX11_men 87 = .ok (.istore_n 3, 1) := by decide +kernel
theorem dX11_men_88 : decode cX11_men 88 = .ok (.iconst 0, 1) := by decide +kernel
theorem dX11_men_89 : decode cX11_men 89 = .ok (.istore 4, 2) := by decide +kernel
theorem dX11_men_91 : decode cX11_men 91 = .ok (.iload 4, 2) := by decide +kernel
theorem dX11_men_93 : decode cX11_men 93 = .ok (.aload_n 0, 1) := by decide +kernel
theorem dX11_men_94 : decode cX11_men 94 = .ok (.getfield 37, 3) := by decide +kernel
theorem dX11_men_97 : decode cX11_men 97 = .ok (.iconst 0, 1) := by decide +kernel
theorem dX11_men_98 : decode cX11_men 98 = .ok (.iaload, 1) := by decide +kernel
theorem dX11_men_99 : decode cX11_men 99 = .ok (.if_icmp .ge 50, 3) := by decide +kernel
theorem dX11_men_102 : decode cX11_men 102 = .ok (.aload_n 0, 1) := by decide +kernel
theorem dX11_men_103 : decode cX11_men 103 = .ok (.iload_n 1, 1) := by decide +kernel
theorem dX11_men_104 : decode cX11_men 104 = .ok (.iload 4, 2) := by decide +kernel
theorem dX11_men_106 : decode cX11_men 106 = .ok (.invokevirtual 178, 3) := by decide +kernel
theorem dX11_men_109 : decode cX11_men 109 = .ok (.istore 5, 2) := by decide +kernel
theorem dX11_men_111 : decode cX11_men 111 = .ok (.iload_n 3, 1) := by decide +kernel
theorem dX11_men_112 : decode cX11_men 112 = .ok (.iload_n 2, 1) := by decide +kernel
theorem dX11_men_113 : decode cX11_men 113 = .ok (.ifCond .eq 27, 3) := by decide +kernel
theorem dX11_men_116 : decode cX11_men 116 = .ok (.iload 5, 2) := by decide +kernel
theorem dX11_men_118 : decode cX11_men 118 = .ok (.ifCond .eq 22, 3) := by decide +kernel
theorem dX11_men_121 : decode cX11_men 121 = .ok (.iload 5, 2) := by decide +kernel
theorem dX11_men_123 : decode cX11_men 123 = .ok (.invokestatic 189, 3) := by decide +kernel
theorem dX11_men_126 : decode cX11_men 126 = .ok (.iload_n 2, 1) := by decide +kernel
theorem dX11_men_127 : decode cX11_men 127 = .ok (.invokestatic 189, 3) := by decide +kernel
theorem dX11_men_130 : decode cX11_men 130 = .ok (.if_icmp .eq 10, 3) := by decide +kernel
theorem dX11_men_133 : decode cX11_men 133 = .ok (.iconst 1, 1) := by decide +kernel
theorem dX11_men_134 : decode cX11_men 134 = .ok (.iload 4, 2) := by decide +kernel
theorem dX11_men_136 : decode cX11_men 136 = .ok (.ishl, 1) := by decide +kernel
theorem dX11_men_137 : decode cX11_men 137 = .ok (.goto 4, 3) := by decide +kernel
theorem dX11_men_140 : decode cX11_men 140 = .ok (.iconst 0, 1) := by decide +kernel
theorem dX11_men_141 : decode cX11_men 141 = .ok (.ior, 1) := by decide +kernel
theorem dX11_men_142 : decode cX11_men 142 = .ok (.istore_n 3, 1) := by decide +kernel
theorem dX11_men_143 : decode cX11_men 143 = .ok (.iinc 4 1, 3) := by decide +kernel
theorem dX11_men_146 : decode cX11_men 146 = .ok (.goto (-55), 3) := by decide +kernel
theorem dX11_men_149 : decode cX11_men 149 = .ok (.iload_n 3, 1) := by decide +kernel
theorem dX11_men_150 : decode cX11_men 150 = .ok (.ireturn, 1) := by decide +kernel
set_option maxRecDepth 20000 in
theorem ggX11_coinsOf_X11_isClose : GoodIn wsX11_coinsOf wsX11_isClose := goodIn_r _ [6, 7, 8, 9, 10, 5, 11, 12, 13, 14, 15, 16, 17, 18, 19, 20, 21, 22, 23, 24, 25, 26, 27, 28, 29, 30, 31, 32, 33, 34, 35, 36, 37, 38, 39, 40, 41, 42, 43, 44, 45, 46, 47, 48, 49, 50, 51, 52, 53, 54] (by decide +kernel) (by decide +kernel)
set_option maxRecDepth 20000 in
theorem gX11_coinsOf_X11_isClose : GoodIn wsX11_coinsOf (wsV RX11 156 RX11 yX11_isClose wsX11_isClose) := goodIn_app (goodIn_of _ (by decide +kernel)) ggX11_coinsOf_X11_isClose
theorem dX11_coinsOf_0 : decode cX11_coinsOf 0 = .ok (.iconst 0, 1) := by decide +kernel
theorem dX11_coinsOf_1 : decode cX11_coinsOf 1 = .ok (.istore_n 2, 1) := by decide +kernel
theorem dX11_coinsOf_2 : decode cX11_coinsOf 2 = .ok (.iconst 0, 1) := by decide +kernel
theorem dX11_coinsOf_3 : decode cX11_coinsOf 3 = .ok (.istore_n 3, 1) := by decide +kernel
theorem dX11_coinsOf_4 : decode cX11_coinsOf 4 = .ok (.iload_n 3, 1) := by decide +kernel
theorem dX11_coinsOf_5 : decode cX11_coinsOf 5 = .ok (.aload_n 0, 1) := by decide +kernel
theorem dX11_coinsOf_6 : decode cX11_coinsOf 6 = .ok (.getfield 13, 3) := by decide +kernel
theorem dX11_coinsOf_9 : decode cX11_coinsOf 9 = .ok (.iconst 0, 1) := by decide +kernel
theorem dX11_coinsOf_10 : decode cX11_coinsOf 10 = .ok (.iaload, 1) := by decide +kernel
theorem dX11_coinsOf_11 : decode cX11_coinsOf 11 = .ok (.if_icmp .ge 26, 3) := by decide +kernel
theorem dX11_coinsOf_14 : decode cX11_coinsOf 14 = .ok (.iload_n 2, 1) := by decide +kernel
theorem dX11_coinsOf_15 : decode cX11_coinsOf 15 = .ok (.aload_n 0, 1) := by decide +kernel
theorem dX11_coinsOf_16 : decode cX11_coinsOf 16 = .ok (.iload_n 1, 1) := by decide +kernel
theorem dX11_coinsOf_17 : decode cX11_coinsOf 17 = .ok (.iload_n 3, 1) := by decide +kernel
theorem dX11_coinsOf_18 : decode cX11_coinsOf 18 = .ok (.invokevirtual 156, 3) := by decide +kernel
theorem dX11_coinsOf_21 : decode cX11_coinsOf 21 = .ok (.ifCond .eq 7, 3) := by decide +kernel
theorem dX11_coinsOf_24 : decode cX11_coinsOf 24 = .ok (.iconst 1, 1) := by decide +kernel
theorem dX11_coinsOf_25 : decode cX11_coinsOf 25 = .ok (.goto 4, 3) := by decide +kernel
theorem dX11_coinsOf_28 : decode cX11_coinsOf 28 = .ok (.iconst 0, 1) := by decide +kernel
theorem dX11_coinsOf_29 : decode cX11_coinsOf 29 = .ok (.iadd, 1) := by decide +kernel
theorem dX11_coinsOf_30 : decode cX11_coinsOf 30 = .ok (.istore_n 2, 1) := by decide +kernel
theorem dX11_coinsOf_31 : decode cX11_coinsOf 31 = .ok (.iinc 3 1, 3) := by decide +kernel
theorem dX11_coinsOf_34 : decode cX11_coinsOf 34 = .ok (.goto (-30), 3) := by decide +kernel
theorem dX11_coinsOf_37 : decode cX11_coinsOf 37 = .ok (.iload_n 2, 1) := by decide +kernel
theorem dX11_coinsOf_38 : decode cX11_coinsOf 38 = .ok (.ireturn, 1) := by decide +kernel
set_option maxRecDepth 20000 in
theorem ggX11_layWays_X11_takenOf : GoodIn wsX11_layWays wsX11_takenOf := goodIn_r _ [9, 2, 10, 55, 56, 57, 58, 59, 60, 61, 62, 63, 64, 65, 66, 67, 68, 69, 70, 71, 72, 73, 74, 75, 76, 77, 78] (by decide +kernel) (by decide +kernel)
set_option maxRecDepth 20000 in
theorem gX11_layWays_X11_takenOf : GoodIn wsX11_layWays (wsV RX11 175 RX11 yX11_takenOf wsX11_takenOf) := goodIn_app (goodIn_of _ (by decide +kernel)) ggX11_layWays_X11_takenOf
set_option maxRecDepth 20000 in
theorem ggX11_layWays_X11_margin0 : GoodIn wsX11_layWays wsX11_margin0 := goodIn_r _ [14, 15, 16, 17, 8, 18, 19, 20, 21, 22, 23, 24, 25, 26, 27, 28, 29, 30, 31, 32, 33, 34, 35, 36, 37, 38, 39, 40, 41, 42, 43, 44, 45, 46, 47, 48, 49, 50, 51, 52, 53, 54, 55, 56, 57, 58, 59, 60, 61, 62, 63, 64, 65, 66, 67, 68, 69, 70, 71, 72, 73, 74, 75, 76, 77, 78] (by decide +kernel) (by decide +kernel)
set_option maxRecDepth 20000 in
theorem gX11_layWays_X11_margin0 : GoodIn wsX11_layWays (wsV RX11 171 RX11 yX11_margin0 wsX11_margin0) := goodIn_app (goodIn_of _ (by decide +kernel)) ggX11_layWays_X11_margin0
set_option maxRecDepth 20000 in
theorem ggX11_layWays_X11_isClose : GoodIn wsX11_layWays wsX11_isClose := goodIn_r _ [47, 19, 15, 16, 17, 8, 18, 20, 21, 22, 23, 24, 25, 26, 27, 28, 29, 30, 31, 32, 33, 34, 35, 48, 49, 50, 55, 56, 57, 58, 59, 60, 61, 62, 63, 64, 65, 66, 67, 68, 69, 70, 71, 72, 73, 74, 75, 76, 77, 78] (by decide +kernel) (by decide +kernel)
set_option maxRecDepth 20000 in
theorem gX11_layWays_X11_isClose : GoodIn wsX11_layWays (wsV RX11 156 RX11 yX11_isClose wsX11_isClose) := goodIn_app (goodIn_of _ (by decide +kernel)) ggX11_layWays_X11_isClose
theorem dX11_layWays_0 : decode cX11_layWays 0 = .ok (.iconst 0, 1) := by decide +kernel
theorem dX11_layWays_1 : decode cX11_layWays 1 = .ok (.istore 4, 2) := by decide +kernel
theorem dX11_layWays_3 : decode cX11_layWays 3 = .ok (.iload 4, 2) := by decide +kernel
theorem dX11_layWays_5 : decode cX11_layWays 5 = .ok (.sipush 600, 3) := by decide +kernel
theorem dX11_layWays_8 : decode cX11_layWays 8 = .ok (.if_icmp .gt 17, 3) := by decide +kernel
theorem dX11_layWays_11 : decode cX11_layWays 11 = .ok (.aload_n 0, 1) := by decide +kernel
theorem dX11_layWays_12 : decode cX11_layWays 12 = .ok (.getfield 55, 3) := by decide +kernel
theorem dX11_layWays_15 : decode cX11_layWays 15 = .ok (.iload 4, 2) := by decide +kernel
theorem dX11_layWays_17 : decode cX11_layWays 17 = .ok (.lconst 0, 1) := by decide +kernel
theorem dX11_layWays_18 : decode cX11_layWays 18 = .ok (.lastore, 1) := by decide +kernel
theorem dX11_layWays_19 : decode cX11_layWays 19 = .ok (.iinc 4 1, 3) := by decide +kernel
theorem dX11_layWays_22 : decode cX11_layWays 22 = .ok (.goto (-19), 3) := by decide +kernel
theorem dX11_layWays_25 : decode cX11_layWays 25 = .ok (.aload_n 0, 1) := by decide +kernel
theorem dX11_layWays_26 : decode cX11_layWays 26 = .ok (.getfield 55, 3) := by decide +kernel
theorem dX11_layWays_29 : decode cX11_layWays 29 = .ok (.sipush 300, 3) := by decide +kernel
theorem dX11_layWays_32 : decode cX11_layWays 32 = .ok (.iconst 2, 1) := by decide +kernel
theorem dX11_layWays_33 : decode cX11_layWays 33 = .ok (.aload_n 0, 1) := by decide +kernel
theorem dX11_layWays_34 : decode cX11_layWays 34 = .ok (.iconst 1, 1) := by decide +kernel
theorem dX11_layWays_35 : decode cX11_layWays 35 = .ok (.invokevirtual 175, 3) := by decide +kernel
theorem dX11_layWays_38 : decode cX11_layWays 38 = .ok (.imul, 1) := by decide +kernel
theorem dX11_layWays_39 : decode cX11_layWays 39 = .ok (.iadd, 1) := by decide +kernel
theorem dX11_layWays_40 : decode cX11_layWays 40 = .ok (.iconst 2, 1) := by decide +kernel
theorem dX11_layWays_41 : decode cX11_layWays 41 = .ok (.aload_n 0, 1) := by decide +kernel
theorem dX11_layWays_42 : decode cX11_layWays 42 = .ok (.iconst 0, 1) := by decide +kernel
theorem dX11_layWays_43 : decode cX11_layWays 43 = .ok (.invokevirtual 175, 3) := by decide +kernel
theorem dX11_layWays_46 : decode cX11_layWays 46 = .ok (.imul, 1) := by decide +kernel
theorem dX11_layWays_47 : decode cX11_layWays 47 = .ok (.isub, 1) := by decide +kernel
theorem dX11_layWays_48 : decode cX11_layWays 48 = .ok (.lconst 1, 1) := by decide +kernel
theorem dX11_layWays_49 : decode cX11_layWays 49 = .ok (.lastore, 1) := by decide +kernel
theorem dX11_layWays_50 : decode cX11_layWays 50 = .ok (.iconst 0, 1) := by decide +kernel
theorem dX11_layWays_51 : decode cX11_layWays 51 = .ok (.istore 4, 2) := by decide +kernel
theorem dX11_layWays_53 : decode cX11_layWays 53 = .ok (.iload 4, 2) := by decide +kernel
theorem dX11_layWays_55 : decode cX11_layWays 55 = .ok (.aload_n 0, 1) := by decide +kernel
theorem dX11_layWays_56 : decode cX11_layWays 56 = .ok (.getfield 13, 3) := by decide +kernel
theorem dX11_layWays_59 : decode cX11_layWays 59 = .ok (.iconst 0, 1) := by decide +kernel
theorem dX11_layWays_60 : decode cX11_layWays 60 = .ok (.iaload, 1) := by decide +kernel
theorem dX11_layWays_61 : decode cX11_layWays 61 = .ok (.if_icmp .ge 163, 3) := by decide +kernel
theorem dX11_layWays_64 : decode cX11_layWays 64 = .ok (.aload_n 0, 1) := by decide +kernel
theorem dX11_layWays_65 : decode cX11_layWays 65 = .ok (.iload_n 1, 1) := by decide +kernel
theorem dX11_layWays_66 : decode cX11_layWays 66 = .ok (.iload_n 2, 1) := by decide +kernel
theorem dX11_layWays_67 : decode cX11_layWays 67 = .ok (.iload 4, 2) := by decide +kernel
theorem dX11_layWays_69 : decode cX11_layWays 69 = .ok (.iconst 0, 1) := by decide +kernel
theorem dX11_layWays_70 : decode cX11_layWays 70 = .ok (.invokevirtual 171, 3) := by decide +kernel
theorem dX11_layWays_73 : decode cX11_layWays 73 = .ok (.istore 5, 2) := by decide +kernel
theorem dX11_layWays_75 : decode cX11_layWays 75 = .ok (.aload_n 0, 1) := by decide +kernel
theorem dX11_layWays_76 : decode cX11_layWays 76 = .ok (.iload_n 1, 1) := by decide +kernel
theorem dX11_layWays_77 : decode cX11_layWays 77 = .ok (.iload_n 2, 1) := by decide +kernel
theorem dX11_layWays_78 : decode cX11_layWays 78 = .ok (.iload 4, 2) := by decide +kernel
theorem dX11_layWays_80 : decode cX11_layWays 80 = .ok (.iconst 1, 1) := by decide +kernel
theorem dX11_layWays_81 : decode cX11_layWays 81 = .ok (.invokevirtual 171, 3) := by decide +kernel
theorem dX11_layWays_84 : decode cX11_layWays 84 = .ok (.istore 6, 2) := by decide +kernel
theorem dX11_layWays_86 : decode cX11_layWays 86 = .ok (.aload_n 0, 1) := by decide +kernel
theorem dX11_layWays_87 : decode cX11_layWays 87 = .ok (.iload_n 2, 1) := by decide +kernel
theorem dX11_layWays_88 : decode cX11_layWays 88 = .ok (.iload 4, 2) := by decide +kernel
theorem dX11_layWays_90 : decode cX11_layWays 90 = .ok (.invokevirtual 156, 3) := by decide +kernel
theorem dX11_layWays_93 : decode cX11_layWays 93 = .ok (.istore 7, 2) := by decide +kernel
theorem dX11_layWays_95 : decode cX11_layWays 95 = .ok (.iconst 0, 1) := by decide +kernel
theorem dX11_layWays_96 : decode cX11_layWays 96 = .ok (.istore 8, 2) := by decide +kernel
theorem dX11_layWays_98 : decode cX11_layWays 98 = .ok (.iload 8, 2) := by decide +kernel
theorem dX11_layWays_100 : decode cX11_layWays 100 = .ok (.sipush 600, 3) := by decide +kernel
theorem dX11_layWays_103 : decode cX11_layWays 103 = .ok (.if_icmp .gt 17, 3) := by decide +kernel
theorem dX11_layWays_106 : decode cX11_layWays 106 = .ok (.aload_n 0, 1) := by decide +kernel
theorem dX11_layWays_107 : decode cX11_layWays 107 = .ok (.getfield 59, 3) := by decide +kernel
theorem dX11_layWays_110 : decode cX11_layWays 110 = .ok (.iload 8, 2) := by decide +kernel
theorem dX11_layWays_112 : decode cX11_layWays 112 = .ok (.lconst 0, 1) := by decide +kernel
theorem dX11_layWays_113 : decode cX11_layWays 113 = .ok (.lastore, 1) := by decide +kernel
theorem dX11_layWays_114 : decode cX11_layWays 114 = .ok (.iinc 8 1, 3) := by decide +kernel
theorem dX11_layWays_117 : decode cX11_layWays 117 = .ok (.goto (-19), 3) := by decide +kernel
theorem dX11_layWays_120 : decode cX11_layWays 120 = .ok (.bipush 10, 2) := by decide +kernel
theorem dX11_layWays_122 : decode cX11_layWays 122 = .ok (.istore 8, 2) := by decide +kernel
theorem dX11_layWays_124 : decode cX11_layWays 124 = .ok (.iload 8, 2) := by decide +kernel
theorem dX11_layWays_126 : decode cX11_layWays 126 = .ok (.sipush 590, 3) := by decide +kernel
theorem dX11_layWays_129 : decode cX11_layWays 129 = .ok (.if_icmp .gt 58, 3) := by decide +kernel
theorem dX11_layWays_132 : decode cX11_layWays 132 = .ok (.aload_n 0, 1) := by decide +kernel
theorem dX11_layWays_133 : decode cX11_layWays 133 = .ok (.getfield 59, 3) := by decide +kernel
theorem dX11_layWays_136 : decode cX11_layWays 136 = .ok (.iload 8, 2) := by decide +kernel
theorem dX11_layWays_138 : decode cX11_layWays 138 = .ok (.iload 5, 2) := by decide +kernel
theorem dX11_layWays_140 : decode cX11_layWays 140 = .ok (.iadd, 1) := by decide +kernel
theorem dX11_layWays_141 : decode cX11_layWays 141 = .ok (.dup2, 1) := by decide +kernel
theorem dX11_layWays_142 : decode cX11_layWays 142 = .ok (.laload, 1) := by decide +kernel
theorem dX11_layWays_143 : decode cX11_layWays 143 = .ok (.aload_n 0, 1) := by decide +kernel
theorem dX11_layWays_144 : decode cX11_layWays 144 = .ok (.getfield 55, 3) := by decide +kernel
theorem dX11_layWays_147 : decode cX11_layWays 147 = .ok (.iload 8, 2) := by decide +kernel
theorem dX11_layWays_149 : decode cX11_layWays 149 = .ok (.laload, 1) := by decide +kernel
theorem dX11_layWays_150 : decode cX11_layWays 150 = .ok (.ladd, 1) := by decide +kernel
theorem dX11_layWays_151 : decode cX11_layWays 151 = .ok (.lastore, 1) := by decide +kernel
theorem dX11_layWays_152 : decode cX11_layWays 152 = .ok (.aload_n 0, 1) := by decide +kernel
theorem dX11_layWays_153 : decode cX11_layWays 153 = .ok (.getfield 59, 3) := by decide +kernel
theorem dX11_layWays_156 : decode cX11_layWays 156 = .ok (.iload 8, 2) := by decide +kernel
theorem dX11_layWays_158 : decode cX11_layWays 158 = .ok (.iload 6, 2) := by decide +kernel
theorem dX11_layWays_160 : decode cX11_layWays 160 = .ok (.iadd, 1) := by decide +kernel
theorem dX11_layWays_161 : decode cX11_layWays 161 = .ok (.dup2, 1) := by decide +kernel
theorem dX11_layWays_162 : decode cX11_layWays 162 = .ok (.laload, 1) := by decide +kernel
theorem dX11_layWays_163 : decode cX11_layWays 163 = .ok (.iload 7, 2) := by decide +kernel
theorem dX11_layWays_165 : decode cX11_layWays 165 = .ok (.ifCond .eq 13, 3) := by decide +kernel
theorem dX11_layWays_168 : decode cX11_layWays 168 = .ok (.aload_n 0, 1) := by decide +kernel
theorem dX11_layWays_169 : decode cX11_layWays 169 = .ok (.getfield 55, 3) := by decide +kernel
theorem dX11_layWays_172 : decode cX11_layWays 172 = .ok (.iload 8, 2) := by decide +kernel
theorem dX11_layWays_174 : decode cX11_layWays 174 = .ok (.laload, 1) := by decide +kernel
theorem dX11_layWays_175 : decode cX11_layWays 175 = .ok (.goto 4, 3) := by decide +kernel
theorem dX11_layWays_178 : decode cX11_layWays 178 = .ok (.lconst 0, 1) := by decide +kernel
theorem dX11_layWays_179 : decode cX11_layWays 179 = .ok (.ladd, 1) := by decide +kernel
theorem dX11_layWays_180 : decode cX11_layWays 180 = .ok (.lastore, 1) := by decide +kernel
theorem dX11_layWays_181 : decode cX11_layWays 181 = .ok (.iinc 8 1, 3) := by decide +kernel
theorem dX11_layWays_184 : decode cX11_layWays 184 = .ok (.goto (-60), 3) := by decide +kernel
theorem dX11_layWays_187 : decode cX11_layWays 187 = .ok (.iconst 0, 1) := by decide +kernel
theorem dX11_layWays_188 : decode cX11_layWays 188 = .ok (.istore 8, 2) := by decide +kernel
theorem dX11_layWays_190 : decode cX11_layWays 190 = .ok (.iload 8, 2) := by decide +kernel
theorem dX11_layWays_192 : decode cX11_layWays 192 = .ok (.sipush 600, 3) := by decide +kernel
theorem dX11_layWays_195 : decode cX11_layWays 195 = .ok (.if_icmp .gt 23, 3) := by decide +kernel
theorem dX11_layWays_198 : decode cX11_layWays 198 = .ok (.aload_n 0, 1) := by decide +kernel
theorem dX11_layWays_199 : decode cX11_layWays 199 = .ok (.getfield 55, 3) := by decide +kernel
theorem dX11_layWays_202 : decode cX11_layWays 202 = .ok (.iload 8, 2) := by decide +kernel
theorem dX11_layWays_204 : decode cX11_layWays 204 = .ok (.aload_n 0, 1) := by decide +kernel
theorem dX11_layWays_205 : decode cX11_layWays 205 = .ok (.getfield 59, 3) := by decide +kernel
theorem dX11_layWays_208 : decode cX11_layWays 208 = .ok (.iload 8, 2) := by decide +kernel
theorem dX11_layWays_210 : decode cX11_layWays 210 = .ok (.laload, 1) := by decide +kernel
theorem dX11_layWays_211 : decode cX11_layWays 211 = .ok (.lastore, 1) := by decide +kernel
theorem dX11_layWays_212 : decode cX11_layWays 212 = .ok (.iinc 8 1, 3) := by decide +kernel
theorem dX11_layWays_215 : decode cX11_layWays 215 = .ok (.goto (-25), 3) := by decide +kernel
theorem dX11_layWays_218 : decode cX11_layWays 218 = .ok (.iinc 4 1, 3) := by decide +kernel
theorem dX11_layWays_221 : decode cX11_layWays 221 = .ok (.goto (-168), 3) := by decide +kernel
theorem dX11_layWays_224 : decode cX11_layWays 224 = .ok (.iconst 0, 1) := by decide +kernel
theorem dX11_layWays_225 : decode cX11_layWays 225 = .ok (.istore 4, 2) := by decide +kernel
theorem dX11_layWays_227 : decode cX11_layWays 227 = .ok (.iload 4, 2) := by decide +kernel
theorem dX11_layWays_229 : decode cX11_layWays 229 = .ok (.iconst 3, 1) := by decide +kernel
theorem dX11_layWays_230 : decode cX11_layWays 230 = .ok (.if_icmp .ge 21, 3) := by decide +kernel
theorem dX11_layWays_233 : decode cX11_layWays 233 = .ok (.aload_n 0, 1) := by decide +kernel
theorem dX11_layWays_234 : decode cX11_layWays 234 = .ok (.getfield 62, 3) := by decide +kernel
theorem dX11_layWays_237 : decode cX11_layWays 237 = .ok (.iconst 3, 1) := by decide +kernel
theorem dX11_layWays_238 : decode cX11_layWays 238 = .ok (.iload_n 3, 1) := by decide +kernel
theorem dX11_layWays_239 : decode cX11_layWays 239 = .ok (.imul, 1) := by decide +kernel
theorem dX11_layWays_240 : decode cX11_layWays 240 = .ok (.iload 4, 2) := by decide +kernel
theorem dX11_layWays_242 : decode cX11_layWays 242 = .ok (.iadd, 1) := by decide +kernel
theorem dX11_layWays_243 : decode cX11_layWays 243 = .ok (.lconst 0, 1) := by decide +kernel
theorem dX11_layWays_244 : decode cX11_layWays 244 = .ok (.lastore, 1) := by decide +kernel
theorem dX11_layWays_245 : decode cX11_layWays 245 = .ok (.iinc 4 1, 3) := by decide +kernel
theorem dX11_layWays_248 : decode cX11_layWays 248 = .ok (.goto (-21), 3) := by decide +kernel
theorem dX11_layWays_251 : decode cX11_layWays 251 = .ok (.iconst 0, 1) := by decide +kernel
theorem dX11_layWays_252 : decode cX11_layWays 252 = .ok (.istore 4, 2) := by decide +kernel
theorem dX11_layWays_254 : decode cX11_layWays 254 = .ok (.iload 4, 2) := by decide +kernel
theorem dX11_layWays_256 : decode cX11_layWays 256 = .ok (.sipush 600, 3) := by decide +kernel
theorem dX11_layWays_259 : decode cX11_layWays 259 = .ok (.if_icmp .gt 53, 3) := by decide +kernel
theorem dX11_layWays_262 : decode cX11_layWays 262 = .ok (.aload_n 0, 1) := by decide +kernel
theorem dX11_layWays_263 : decode cX11_layWays 263 = .ok (.getfield 62, 3) := by decide +kernel
theorem dX11_layWays_266 : decode cX11_layWays 266 = .ok (.iconst 3, 1) := by decide +kernel
theorem dX11_layWays_267 : decode cX11_layWays 267 = .ok (.iload_n 3, 1) := by decide +kernel
theorem dX11_layWays_268 : decode cX11_layWays 268 = .ok (.imul, 1) := by decide +kernel
theorem dX11_layWays_269 : decode cX11_layWays 269 = .ok (.iload 4, 2) := by decide +kernel
theorem dX11_layWays_271 : decode cX11_layWays 271 = .ok (.sipush 300, 3) := by decide +kernel
theorem dX11_layWays_274 : decode cX11_layWays 274 = .ok (.if_icmp .le 7, 3) := by decide +kernel
theorem dX11_layWays_277 : decode cX11_layWays 277 = .ok (.iconst 0, 1) := by decide +kernel
theorem dX11_layWays_278 : decode cX11_layWays 278 = .ok (.goto 16, 3) := by decide +kernel
theorem dX11_layWays_281 : decode cX11_layWays 281 = .ok (.iload 4, 2) := by decide +kernel
theorem dX11_layWays_283 : decode cX11_layWays 283 = .ok (.sipush 300, 3) := by decide +kernel
theorem dX11_layWays_286 : decode cX11_layWays 286 = .ok (.if_icmp .ge 7, 3) := by decide +kernel
theorem dX11_layWays_289 : decode cX11_layWays 289 = .ok (.iconst 1, 1) := by decide +kernel
theorem dX11_layWays_290 : decode cX11_layWays 290 = .ok (.goto 4, 3) := by decide +kernel
theorem dX11_layWays_293 : decode cX11_layWays 293 = .ok (.iconst 2, 1) := by decide +kernel
theorem dX11_layWays_294 : decode cX11_layWays 294 = .ok (.iadd, 1) := by decide +kernel
theorem dX11_layWays_295 : decode cX11_layWays 295 = .ok (.dup2, 1) := by decide +kernel
theorem dX11_layWays_296 : decode cX11_layWays 296 = .ok (.laload, 1) := by decide +kernel
theorem dX11_layWays_297 : decode cX11_layWays 297 = .ok (.aload_n 0, 1) := by decide +kernel
theorem dX11_layWays_298 : decode cX11_layWays 298 = .ok (.getfield 55, 3) := by decide +kernel
theorem dX11_layWays_301 : decode cX11_layWays 301 = .ok (.iload 4, 2) := by decide +kernel
theorem dX11_layWays_303 : decode cX11_layWays 303 = .ok (.laload, 1) := by decide +kernel
theorem dX11_layWays_304 : decode cX11_layWays 304 = .ok (.ladd, 1) := by decide +kernel
theorem dX11_layWays_305 : decode cX11_layWays 305 = .ok (.lastore, 1) := by decide +kernel
theorem dX11_layWays_306 : decode cX11_layWays 306 = .ok (.iinc 4 1, 3) := by decide +kernel
theorem dX11_layWays_309 : decode cX11_layWays 309 = .ok (.goto (-55), 3) := by decide +kernel
theorem dX11_layWays_312 : decode cX11_layWays 312 = .ok (.return_, 1) := by decide +kernel
theorem dX11_cardAs_0 : decode cX11_cardAs 0 = .ok (.iload_n 0, 1) := by decide +kernel
theorem dX11_cardAs_1 : decode cX11_cardAs 1 = .ok (.ifCond .ne 7, 3) := by decide +kernel
theorem dX11_cardAs_4 : decode cX11_cardAs 4 = .ok (.iconst 1, 1) := by decide +kernel
theorem dX11_cardAs_5 : decode cX11_cardAs 5 = .ok (.goto 13, 3) := by decide +kernel
theorem dX11_cardAs_8 : decode cX11_cardAs 8 = .ok (.iload_n 0, 1) := by decide +kernel
theorem dX11_cardAs_9 : decode cX11_cardAs 9 = .ok (.iconst 1, 1) := by decide +kernel
theorem dX11_cardAs_10 : decode cX11_cardAs 10 = .ok (.if_icmp .ne 7, 3) := by decide +kernel
theorem dX11_cardAs_13 : decode cX11_cardAs 13 = .ok (.iconst (-1), 1) := by decide +kernel
theorem dX11_cardAs_14 : decode cX11_cardAs 14 = .ok (.goto 4, 3) := by decide +kernel
theorem dX11_cardAs_17 : decode cX11_cardAs 17 = .ok (.iconst 0, 1) := by decide +kernel
theorem dX11_cardAs_18 : decode cX11_cardAs 18 = .ok (.ireturn, 1) := by decide +kernel
theorem dX11_common_0 : decode cX11_common 0 = .ok (.lload_n 0, 1) := by decide +kernel
theorem dX11_common_1 : decode cX11_common 1 = .ok (.lstore 4, 2) := by decide +kernel
theorem dX11_common_3 : decode cX11_common 3 = .ok (.lload_n 2, 1) := by decide +kernel
theorem dX11_common_4 : decode cX11_common 4 = .ok (.lstore 6, 2) := by decide +kernel
theorem dX11_common_6 : decode cX11_common 6 = .ok (.lload 6, 2) := by decide +kernel
theorem dX11_common_8 : decode cX11_common 8 = .ok (.lconst 0, 1) := by decide +kernel
theorem dX11_common_9 : decode cX11_common 9 = .ok (.lcmp, 1) := by decide +kernel
theorem dX11_common_10 : decode cX11_common 10 = .ok (.ifCond .eq 21, 3) := by decide +kernel
theorem dX11_common_13 : decode cX11_common 13 = .ok (.lload 4, 2) := by decide +kernel
theorem dX11_common_15 : decode cX11_common 15 = .ok (.lload 6, 2) := by decide +kernel
theorem dX11_common_17 : decode cX11_common 17 = .ok (.lrem, 1) := by decide +kernel
theorem dX11_common_18 : decode cX11_common 18 = .ok (.lstore 8, 2) := by decide +kernel
theorem dX11_common_20 : decode cX11_common 20 = .ok (.lload 6, 2) := by decide +kernel
theorem dX11_common_22 : decode cX11_common 22 = .ok (.lstore 4, 2) := by decide +kernel
theorem dX11_common_24 : decode cX11_common 24 = .ok (.lload 8, 2) := by decide +kernel
theorem dX11_common_26 : decode cX11_common 26 = .ok (.lstore 6, 2) := by decide +kernel
theorem dX11_common_28 : decode cX11_common 28 = .ok (.goto (-22), 3) := by decide +kernel
theorem dX11_common_31 : decode cX11_common 31 = .ok (.lload 4, 2) := by decide +kernel
theorem dX11_common_33 : decode cX11_common 33 = .ok (.lreturn, 1) := by decide +kernel
set_option maxRecDepth 20000 in
theorem ggX11_coins_X11_in : GoodIn wsX11_coins wsX11_in := goodIn_r _ [7] (by decide +kernel) (by decide +kernel)
set_option maxRecDepth 20000 in
theorem gX11_coins_X11_in : GoodIn wsX11_coins (va_wsS RX11 80 yX11_in wsX11_in) := goodIn_app (goodIn_of _ (by decide +kernel)) ggX11_coins_X11_in
set_option maxRecDepth 20000 in
theorem ggX11_coins_X11_areThree : GoodIn wsX11_coins wsX11_areThree := goodIn_r _ [11, 12, 13, 14, 6, 15, 16, 4, 5, 7, 83, 84, 85, 86, 87, 88, 89, 90, 91, 92, 93, 94, 95, 96, 97, 98, 99, 100, 101, 102, 103, 104, 105, 106] (by decide +kernel) (by decide +kernel)
set_option maxRecDepth 20000 in
theorem gX11_coins_X11_areThree : GoodIn wsX11_coins (wsV RX11 192 RX11 yX11_areThree wsX11_areThree) := goodIn_app (goodIn_of _ (by decide +kernel)) ggX11_coins_X11_areThree
set_option maxRecDepth 20000 in
theorem ggX11_coins_X11_coinsOf : GoodIn wsX11_coins wsX11_coinsOf := goodIn_r _ [20, 21, 22, 23, 24, 6, 25, 26, 27, 28, 29, 30, 31, 32, 33, 34, 35, 36, 37, 38, 39, 40, 41, 42, 43, 44, 45, 46, 4, 5, 7, 83, 84, 85, 86, 87, 88, 89, 90, 91, 92, 93, 94, 95, 96, 97, 98, 99, 100, 101, 102, 103, 104, 105, 106] (by decide +kernel) (by decide +kernel)
set_option maxRecDepth 20000 in
theorem gX11_coins_X11_coinsOf : GoodIn wsX11_coins (wsV RX11 201 RX11 yX11_coinsOf wsX11_coinsOf) := goodIn_app (goodIn_of _ (by decide +kernel)) ggX11_coins_X11_coinsOf
set_option maxRecDepth 20000 in
theorem ggX11_coins_X11_layWays : GoodIn wsX11_coins wsX11_layWays := goodIn_r _ [50, 51, 21, 52, 3, 53, 54, 55, 6, 56, 57, 58, 59, 60, 61, 27, 28, 29, 30, 26, 31, 32, 33, 34, 35, 36, 37, 38, 39, 40, 41, 42, 43, 44, 45, 46, 62, 63, 64, 65, 66, 67, 68, 69, 22, 23, 24, 25, 4, 5, 7, 70, 71, 72, 73, 83, 84, 85, 86, 87, 88, 89, 90, 91, 92, 93, 94, 95, 96, 97, 98, 99, 100, 101, 102, 103, 104, 105, 106] (by decide +kernel) (by decide +kernel)
set_option maxRecDepth 20000 in
theorem gX11_coins_X11_layWays : GoodIn wsX11_coins (wsV RX11 204 RX11 yX11_layWays wsX11_layWays) := goodIn_app (goodIn_of _ (by decide +kernel)) ggX11_coins_X11_layWays
set_option maxRecDepth 20000 in
theorem ggX11_coins_X11_cardAs : GoodIn wsX11_coins wsX11_cardAs := goodIn_r _ [76] (by decide +kernel) (by decide +kernel)
set_option maxRecDepth 20000 in
theorem gX11_coins_X11_cardAs : GoodIn wsX11_coins (va_wsS RX11 208 yX11_cardAs wsX11_cardAs) := goodIn_app (goodIn_of _ (by decide +kernel)) ggX11_coins_X11_cardAs
set_option maxRecDepth 20000 in
theorem ggX11_coins_X11_whoBy : GoodIn wsX11_coins wsX11_whoBy := goodIn_r _ [79] (by decide +kernel) (by decide +kernel)
set_option maxRecDepth 20000 in
theorem gX11_coins_X11_whoBy : GoodIn wsX11_coins (va_wsS RX11 186 yX11_whoBy wsX11_whoBy) := goodIn_app (goodIn_of _ (by decide +kernel)) ggX11_coins_X11_whoBy
set_option maxRecDepth 20000 in
theorem ggX11_coins_X11_common : GoodIn wsX11_coins wsX11_common := goodIn_r _ [82] (by decide +kernel) (by decide +kernel)
set_option maxRecDepth 20000 in
theorem gX11_coins_X11_common : GoodIn wsX11_coins (va_wsS RX11 211 yX11_common wsX11_common) := goodIn_app (goodIn_of _ (by decide +kernel)) ggX11_coins_X11_common
theorem dX11_coins_0 : decode cX11_coins 0 = .ok (.iload_n 1, 1) := by decide +kernel
theorem dX11_coins_1 : decode cX11_coins 1 = .ok (.i2l, 1) := by decide +kernel
theorem dX11_coins_2 : decode cX11_coins 2 = .ok (.lconst 0, 1) := by decide +kernel
theorem dX11_coins_3 : decode cX11_coins 3 = .ok (.lconst 1, 1) := by decide +kernel
theorem dX11_coins_4 : decode cX11_coins 4 = .ok (.invokestatic 80, 3) := by decide +kernel
theorem dX11_coins_7 : decode cX11_coins 7 = .ok (.ifCond .eq 49, 3) := by decide +kernel
theorem dX11_coins_10 : decode cX11_coins 10 = .ok (.aload_n 0, 1) := by decide +kernel
theorem dX11_coins_11 : decode cX11_coins 11 = .ok (.iload_n 2, 1) := by decide +kernel
theorem dX11_coins_12 : decode cX11_coins 12 = .ok (.iload_n 3, 1) := by decide +kernel
theorem dX11_coins_13 : decode cX11_coins 13 = .ok (.iload 4, 2) := by decide +kernel
theorem dX11_coins_15 : decode cX11_coins 15 = .ok (.invokevirtual 192, 3) := by decide +kernel
theorem dX11_coins_18 : decode cX11_coins 18 = .ok (.ifCond .eq 38, 3) := by decide +kernel
theorem dX11_coins_21 : decode cX11_coins 21 = .ok (.iload 5, 2) := by decide +kernel
theorem dX11_coins_23 : decode cX11_coins 23 = .ok (.i2l, 1) := by decide +kernel
theorem dX11_coins_24 : decode cX11_coins 24 = .ok (.ldc2_w 199, 3) := by decide +kernel
theorem dX11_coins_27 : decode cX11_coins 27 = .ok (.ldc2_w 181, 3) := by decide +kernel
theorem dX11_coins_30 : decode cX11_coins 30 = .ok (.invokestatic 80, 3) := by decide +kernel
theorem dX11_coins_33 : decode cX11_coins 33 = .ok (.ifCond .eq 23, 3) := by decide +kernel
theorem dX11_coins_36 : decode cX11_coins 36 = .ok (.iload 6, 2) := by decide +kernel
theorem dX11_coins_38 : decode cX11_coins 38 = .ok (.i2l, 1) := by decide +kernel
theorem dX11_coins_39 : decode cX11_coins 39 = .ok (.lconst 0, 1) := by decide +kernel
theorem dX11_coins_40 : decode cX11_coins 40 = .ok (.iload 5, 2) := by decide +kernel
theorem dX11_coins_42 : decode cX11_coins 42 = .ok (.ifCond .ge 7, 3) := by decide +kernel
theorem dX11_coins_45 : decode cX11_coins 45 = .ok (.lconst 0, 1) := by decide +kernel
theorem dX11_coins_46 : decode cX11_coins 46 = .ok (.goto 4, 3) := by decide +kernel
theorem dX11_coins_49 : decode cX11_coins 49 = .ok (.lconst 1, 1) := by decide +kernel
theorem dX11_coins_50 : decode cX11_coins 50 = .ok (.invokestatic 80, 3) := by decide +kernel
theorem dX11_coins_53 : decode cX11_coins 53 = .ok (.ifCond .ne 7, 3) := by decide +kernel
theorem dX11_coins_56 : decode cX11_coins 56 = .ok (.ldc2_w 199, 3) := by decide +kernel
theorem dX11_coins_59 : decode cX11_coins 59 = .ok (.lreturn, 1) := by decide +kernel
theorem dX11_coins_60 : decode cX11_coins 60 = .ok (.aload_n 0, 1) := by decide +kernel
theorem dX11_coins_61 : decode cX11_coins 61 = .ok (.iload_n 2, 1) := by decide +kernel
theorem dX11_coins_62 : decode cX11_coins 62 = .ok (.invokevirtual 201, 3) := by decide +kernel
theorem dX11_coins_65 : decode cX11_coins 65 = .ok (.aload_n 0, 1) := by decide +kernel
theorem dX11_coins_66 : decode cX11_coins 66 = .ok (.iload_n 3, 1) := by decide +kernel
theorem dX11_coins_67 : decode cX11_coins 67 = .ok (.invokevirtual 201, 3) := by decide +kernel
theorem dX11_coins_70 : decode cX11_coins 70 = .ok (.iadd, 1) := by decide +kernel
theorem dX11_coins_71 : decode cX11_coins 71 = .ok (.aload_n 0, 1) := by decide +kernel
theorem dX11_coins_72 : decode cX11_coins 72 = .ok (.iload 4, 2) := by decide +kernel
theorem dX11_coins_74 : decode cX11_coins 74 = .ok (.invokevirtual 201, 3) := by decide +kernel
theorem dX11_coins_77 : decode cX11_coins 77 = .ok (.iadd, 1) := by decide +kernel
theorem dX11_coins_78 : decode cX11_coins 78 = .ok (.istore 7, 2) := by decide +kernel
theorem dX11_coins_80 : decode cX11_coins 80 = .ok (.iload 5, 2) := by decide +kernel
theorem dX11_coins_82 : decode cX11_coins 82 = .ok (.ifCond .ge 7, 3) := by decide +kernel
theorem dX11_coins_85 : decode cX11_coins 85 = .ok (.iload 7, 2) := by decide +kernel
theorem dX11_coins_87 : decode cX11_coins 87 = .ok (.i2l, 1) := by decide +kernel
theorem dX11_coins_88 : decode cX11_coins 88 = .ok (.lreturn, 1) := by decide +kernel
theorem dX11_coins_89 : decode cX11_coins 89 = .ok (.aload_n 0, 1) := by decide +kernel
theorem dX11_coins_90 : decode cX11_coins 90 = .ok (.iload_n 1, 1) := by decide +kernel
theorem dX11_coins_91 : decode cX11_coins 91 = .ok (.iload_n 2, 1) := by decide +kernel
theorem dX11_coins_92 : decode cX11_coins 92 = .ok (.iconst 0, 1) := by decide +kernel
theorem dX11_coins_93 : decode cX11_coins 93 = .ok (.invokevirtual 204, 3) := by decide +kernel
theorem dX11_coins_96 : decode cX11_coins 96 = .ok (.aload_n 0, 1) := by decide +kernel
theorem dX11_coins_97 : decode cX11_coins 97 = .ok (.iload_n 1, 1) := by decide +kernel
theorem dX11_coins_98 : decode cX11_coins 98 = .ok (.iload_n 3, 1) := by decide +kernel
theorem dX11_coins_99 : decode cX11_coins 99 = .ok (.iconst 1, 1) := by decide +kernel
theorem dX11_coins_100 : decode cX11_coins 100 = .ok (.invokevirtual 204, 3) := by decide +kernel
theorem dX11_coins_103 : decode cX11_coins 103 = .ok (.aload_n 0, 1) := by decide +kernel
theorem dX11_coins_104 : decode cX11_coins 104 = .ok (.iload_n 1, 1) := by decide +kernel
theorem dX11_coins_105 : decode cX11_coins 105 = .ok (.iload 4, 2) := by decide +kernel
theorem dX11_coins_107 : decode cX11_coins 107 = .ok (.iconst 2, 1) := by decide +kernel
theorem dX11_coins_108 : decode cX11_coins 108 = .ok (.invokevirtual 204, 3) := by decide +kernel
theorem dX11_coins_111 : decode cX11_coins 111 = .ok (.lconst 0, 1) := by decide +kernel
theorem dX11_coins_112 : decode cX11_coins 112 = .ok (.lstore 8, 2) := by decide +kernel
theorem dX11_coins_114 : decode cX11_coins 114 = .ok (.iconst 0, 1) := by decide +kernel
theorem dX11_coins_115 : decode cX11_coins 115 = .ok (.istore 10, 2) := by decide +kernel
theorem dX11_coins_117 : decode cX11_coins 117 = .ok (.iload 10, 2) := by decide +kernel
theorem dX11_coins_119 : decode cX11_coins 119 = .ok (.iconst 3, 1) := by decide +kernel
theorem dX11_coins_120 : decode cX11_coins 120 = .ok (.if_icmp .ge 111, 3) := by decide +kernel
theorem dX11_coins_123 : decode cX11_coins 123 = .ok (.iconst 0, 1) := by decide +kernel
theorem dX11_coins_124 : decode cX11_coins 124 = .ok (.istore 11, 2) := by decide +kernel
theorem dX11_coins_126 : decode cX11_coins 126 = .ok (.iload 11, 2) := by decide +kernel
theorem dX11_coins_128 : decode cX11_coins 128 = .ok (.iconst 3, 1) := by decide +kernel
theorem dX11_coins_129 : decode cX11_coins 129 = .ok (.if_icmp .ge 96, 3) := by decide +kernel
theorem dX11_coins_132 : decode cX11_coins 132 = .ok (.iconst 0, 1) := by decide +kernel
theorem dX11_coins_133 : decode cX11_coins 133 = .ok (.istore 12, 2) := by decide +kernel
theorem dX11_coins_135 : decode cX11_coins 135 = .ok (.iload 12, 2) := by decide +kernel
theorem dX11_coins_137 : decode cX11_coins 137 = .ok (.iconst 3, 1) := by decide +kernel
theorem dX11_coins_138 : decode cX11_coins 138 = .ok (.if_icmp .ge 81, 3) := by decide +kernel
theorem dX11_coins_141 : decode cX11_coins 141 = .ok (.iload 10, 2) := by decide +kernel
theorem dX11_coins_143 : decode cX11_coins 143 = .ok (.invokestatic 208, 3) := by decide +kernel
theorem dX11_coins_146 : decode cX11_coins 146 = .ok (.iload 11, 2) := by decide +kernel
theorem dX11_coins_148 : decode cX11_coins 148 = .ok (.invokestatic 208, 3) := by decide +kernel
theorem dX11_coins_151 : decode cX11_coins 151 = .ok (.iload 12, 2) := by decide +kernel
theorem dX11_coins_153 : decode cX11_coins 153 = .ok (.invokestatic 208, 3) := by decide +kernel
theorem dX11_coins_156 : decode cX11_coins 156 = .ok (.invokestatic 186, 3) := by decide +kernel
