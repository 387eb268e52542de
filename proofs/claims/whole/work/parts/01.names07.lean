theorem dX11_coins_159 : decode cX11_coins 159 = .ok (.iload 5, 2) := by decide +kernel
theorem dX11_coins_161 : decode cX11_coins 161 = .ok (.if_icmp .ne 7, 3) := by decide +kernel
theorem dX11_coins_164 : decode cX11_coins 164 = .ok (.iconst 1, 1) := by decide +kernel
theorem dX11_coins_165 : decode cX11_coins 165 = .ok (.goto 4, 3) := by decide +kernel
theorem dX11_coins_168 : decode cX11_coins 168 = .ok (.iconst 0, 1) := by decide +kernel
theorem dX11_coins_169 : decode cX11_coins 169 = .ok (.istore 13, 2) := by decide +kernel
theorem dX11_coins_171 : decode cX11_coins 171 = .ok (.lload 8, 2) := by decide +kernel
theorem dX11_coins_173 : decode cX11_coins 173 = .ok (.iload 13, 2) := by decide +kernel
theorem dX11_coins_175 : decode cX11_coins 175 = .ok (.ifCond .eq 34, 3) := by decide +kernel
theorem dX11_coins_178 : decode cX11_coins 178 = .ok (.aload_n 0, 1) := by decide +kernel
theorem dX11_coins_179 : decode cX11_coins 179 = .ok (.getfield 62, 3) := by decide +kernel
theorem dX11_coins_182 : decode cX11_coins 182 = .ok (.iload 10, 2) := by decide +kernel
theorem dX11_coins_184 : decode cX11_coins 184 = .ok (.laload, 1) := by decide +kernel
theorem dX11_coins_185 : decode cX11_coins 185 = .ok (.aload_n 0, 1) := by decide +kernel
theorem dX11_coins_186 : decode cX11_coins 186 = .ok (.getfield 62, 3) := by decide +kernel
theorem dX11_coins_189 : decode cX11_coins 189 = .ok (.iconst 3, 1) := by decide +kernel
theorem dX11_coins_190 : decode cX11_coins 190 = .ok (.iload 11, 2) := by decide +kernel
theorem dX11_coins_192 : decode cX11_coins 192 = .ok (.iadd, 1) := by decide +kernel
theorem dX11_coins_193 : decode cX11_coins 193 = .ok (.laload, 1) := by decide +kernel
theorem dX11_coins_194 : decode cX11_coins 194 = .ok (.lmul, 1) := by decide +kernel
theorem dX11_coins_195 : decode cX11_coins 195 = .ok (.aload_n 0, 1) := by decide +kernel
theorem dX11_coins_196 : decode cX11_coins 196 = .ok (.getfield 62, 3) := by decide +kernel
theorem dX11_coins_199 : decode cX11_coins 199 = .ok (.bipush 6, 2) := by decide +kernel
theorem dX11_coins_201 : decode cX11_coins 201 = .ok (.iload 12, 2) := by decide +kernel
theorem dX11_coins_203 : decode cX11_coins 203 = .ok (.iadd, 1) := by decide +kernel
theorem dX11_coins_204 : decode cX11_coins 204 = .ok (.laload, 1) := by decide +kernel
theorem dX11_coins_205 : decode cX11_coins 205 = .ok (.lmul, 1) := by decide +kernel
theorem dX11_coins_206 : decode cX11_coins 206 = .ok (.goto 4, 3) := by decide +kernel
theorem dX11_coins_209 : decode cX11_coins 209 = .ok (.lconst 0, 1) := by decide +kernel
theorem dX11_coins_210 : decode cX11_coins 210 = .ok (.ladd, 1) := by decide +kernel
theorem dX11_coins_211 : decode cX11_coins 211 = .ok (.lstore 8, 2) := by decide +kernel
theorem dX11_coins_213 : decode cX11_coins 213 = .ok (.iinc 12 1, 3) := by decide +kernel
theorem dX11_coins_216 : decode cX11_coins 216 = .ok (.goto (-81), 3) := by decide +kernel
theorem dX11_coins_219 : decode cX11_coins 219 = .ok (.iinc 11 1, 3) := by decide +kernel
theorem dX11_coins_222 : decode cX11_coins 222 = .ok (.goto (-96), 3) := by decide +kernel
theorem dX11_coins_225 : decode cX11_coins 225 = .ok (.iinc 10 1, 3) := by decide +kernel
theorem dX11_coins_228 : decode cX11_coins 228 = .ok (.goto (-111), 3) := by decide +kernel
theorem dX11_coins_231 : decode cX11_coins 231 = .ok (.lconst 1, 1) := by decide +kernel
theorem dX11_coins_232 : decode cX11_coins 232 = .ok (.iload 7, 2) := by decide +kernel
theorem dX11_coins_234 : decode cX11_coins 234 = .ok (.lshl, 1) := by decide +kernel
theorem dX11_coins_235 : decode cX11_coins 235 = .ok (.lstore 10, 2) := by decide +kernel
theorem dX11_coins_237 : decode cX11_coins 237 = .ok (.lload 8, 2) := by decide +kernel
theorem dX11_coins_239 : decode cX11_coins 239 = .ok (.lload 10, 2) := by decide +kernel
theorem dX11_coins_241 : decode cX11_coins 241 = .ok (.invokestatic 211, 3) := by decide +kernel
theorem dX11_coins_244 : decode cX11_coins 244 = .ok (.lstore 12, 2) := by decide +kernel
theorem dX11_coins_246 : decode cX11_coins 246 = .ok (.iload 6, 2) := by decide +kernel
theorem dX11_coins_248 : decode cX11_coins 248 = .ok (.ifCond .ne 11, 3) := by decide +kernel
theorem dX11_coins_251 : decode cX11_coins 251 = .ok (.lload 8, 2) := by decide +kernel
theorem dX11_coins_253 : decode cX11_coins 253 = .ok (.lload 12, 2) := by decide +kernel
theorem dX11_coins_255 : decode cX11_coins 255 = .ok (.ldiv, 1) := by decide +kernel
theorem dX11_coins_256 : decode cX11_coins 256 = .ok (.goto 8, 3) := by decide +kernel
theorem dX11_coins_259 : decode cX11_coins 259 = .ok (.lload 10, 2) := by decide +kernel
theorem dX11_coins_261 : decode cX11_coins 261 = .ok (.lload 12, 2) := by decide +kernel
theorem dX11_coins_263 : decode cX11_coins 263 = .ok (.ldiv, 1) := by decide +kernel
theorem dX11_coins_264 : decode cX11_coins 264 = .ok (.lreturn, 1) := by decide +kernel
set_option maxRecDepth 20000 in
theorem ggX11_unseenBy_X11_shows : GoodIn wsX11_unseenBy wsX11_shows := goodIn_r _ [7] (by decide +kernel) (by decide +kernel)
set_option maxRecDepth 20000 in
theorem gX11_unseenBy_X11_shows : GoodIn wsX11_unseenBy (va_wsS RX11 132 yX11_shows wsX11_shows) := goodIn_app (goodIn_of _ (by decide +kernel)) ggX11_unseenBy_X11_shows
theorem dX11_unseenBy_0 : decode cX11_unseenBy 0 = .ok (.iconst 0, 1) := by decide +kernel
theorem dX11_unseenBy_1 : decode cX11_unseenBy 1 = .ok (.istore 5, 2) := by decide +kernel
theorem dX11_unseenBy_3 : decode cX11_unseenBy 3 = .ok (.iconst 0, 1) := by decide +kernel
theorem dX11_unseenBy_4 : decode cX11_unseenBy 4 = .ok (.istore 6, 2) := by decide +kernel
theorem dX11_unseenBy_6 : decode cX11_unseenBy 6 = .ok (.iload 6, 2) := by decide +kernel
theorem dX11_unseenBy_8 : decode cX11_unseenBy 8 = .ok (.aload_n 0, 1) := by decide +kernel
theorem dX11_unseenBy_9 : decode cX11_unseenBy 9 = .ok (.getfield 16, 3) := by decide +kernel
theorem dX11_unseenBy_12 : decode cX11_unseenBy 12 = .ok (.iconst 0, 1) := by decide +kernel
theorem dX11_unseenBy_13 : decode cX11_unseenBy 13 = .ok (.iaload, 1) := by decide +kernel
theorem dX11_unseenBy_14 : decode cX11_unseenBy 14 = .ok (.if_icmp .ge 103, 3) := by decide +kernel
theorem dX11_unseenBy_17 : decode cX11_unseenBy 17 = .ok (.aload_n 0, 1) := by decide +kernel
theorem dX11_unseenBy_18 : decode cX11_unseenBy 18 = .ok (.getfield 19, 3) := by decide +kernel
theorem dX11_unseenBy_21 : decode cX11_unseenBy 21 = .ok (.iconst 5, 1) := by decide +kernel
theorem dX11_unseenBy_22 : decode cX11_unseenBy 22 = .ok (.iload 6, 2) := by decide +kernel
theorem dX11_unseenBy_24 : decode cX11_unseenBy 24 = .ok (.imul, 1) := by decide +kernel
theorem dX11_unseenBy_25 : decode cX11_unseenBy 25 = .ok (.iconst 4, 1) := by decide +kernel
theorem dX11_unseenBy_26 : decode cX11_unseenBy 26 = .ok (.iadd, 1) := by decide +kernel
theorem dX11_unseenBy_27 : decode cX11_unseenBy 27 = .ok (.iaload, 1) := by decide +kernel
theorem dX11_unseenBy_28 : decode cX11_unseenBy 28 = .ok (.istore 7, 2) := by decide +kernel
theorem dX11_unseenBy_30 : decode cX11_unseenBy 30 = .ok (.iload_n 1, 1) := by decide +kernel
theorem dX11_unseenBy_31 : decode cX11_unseenBy 31 = .ok (.iload 7, 2) := by decide +kernel
theorem dX11_unseenBy_33 : decode cX11_unseenBy 33 = .ok (.invokestatic 132, 3) := by decide +kernel
theorem dX11_unseenBy_36 : decode cX11_unseenBy 36 = .ok (.ifCond .eq 7, 3) := by decide +kernel
theorem dX11_unseenBy_39 : decode cX11_unseenBy 39 = .ok (.iconst 1, 1) := by decide +kernel
theorem dX11_unseenBy_40 : decode cX11_unseenBy 40 = .ok (.goto 4, 3) := by decide +kernel
theorem dX11_unseenBy_43 : decode cX11_unseenBy 43 = .ok (.iconst 0, 1) := by decide +kernel
theorem dX11_unseenBy_44 : decode cX11_unseenBy 44 = .ok (.iload_n 2, 1) := by decide +kernel
theorem dX11_unseenBy_45 : decode cX11_unseenBy 45 = .ok (.iload 7, 2) := by decide +kernel
theorem dX11_unseenBy_47 : decode cX11_unseenBy 47 = .ok (.invokestatic 132, 3) := by decide +kernel
theorem dX11_unseenBy_50 : decode cX11_unseenBy 50 = .ok (.ifCond .eq 7, 3) := by decide +kernel
theorem dX11_unseenBy_53 : decode cX11_unseenBy 53 = .ok (.iconst 1, 1) := by decide +kernel
theorem dX11_unseenBy_54 : decode cX11_unseenBy 54 = .ok (.goto 4, 3) := by decide +kernel
theorem dX11_unseenBy_57 : decode cX11_unseenBy 57 = .ok (.iconst 0, 1) := by decide +kernel
theorem dX11_unseenBy_58 : decode cX11_unseenBy 58 = .ok (.iadd, 1) := by decide +kernel
theorem dX11_unseenBy_59 : decode cX11_unseenBy 59 = .ok (.iload_n 3, 1) := by decide +kernel
theorem dX11_unseenBy_60 : decode cX11_unseenBy 60 = .ok (.iload 7, 2) := by decide +kernel
theorem dX11_unseenBy_62 : decode cX11_unseenBy 62 = .ok (.invokestatic 132, 3) := by decide +kernel
theorem dX11_unseenBy_65 : decode cX11_unseenBy 65 = .ok (.ifCond .eq 7, 3) := by decide +kernel
theorem dX11_unseenBy_68 : decode cX11_unseenBy 68 = .ok (.iconst 1, 1) := by decide +kernel
theorem dX11_unseenBy_69 : decode cX11_unseenBy 69 = .ok (.goto 4, 3) := by decide +kernel
theorem dX11_unseenBy_72 : decode cX11_unseenBy 72 = .ok (.iconst 0, 1) := by decide +kernel
theorem dX11_unseenBy_73 : decode cX11_unseenBy 73 = .ok (.iadd, 1) := by decide +kernel
theorem dX11_unseenBy_74 : decode cX11_unseenBy 74 = .ok (.istore 8, 2) := by decide +kernel
theorem dX11_unseenBy_76 : decode cX11_unseenBy 76 = .ok (.iload 5, 2) := by decide +kernel
theorem dX11_unseenBy_78 : decode cX11_unseenBy 78 = .ok (.aload_n 0, 1) := by decide +kernel
theorem dX11_unseenBy_79 : decode cX11_unseenBy 79 = .ok (.getfield 19, 3) := by decide +kernel
theorem dX11_unseenBy_82 : decode cX11_unseenBy 82 = .ok (.iconst 5, 1) := by decide +kernel
theorem dX11_unseenBy_83 : decode cX11_unseenBy 83 = .ok (.iload 6, 2) := by decide +kernel
theorem dX11_unseenBy_85 : decode cX11_unseenBy 85 = .ok (.imul, 1) := by decide +kernel
theorem dX11_unseenBy_86 : decode cX11_unseenBy 86 = .ok (.iaload, 1) := by decide +kernel
theorem dX11_unseenBy_87 : decode cX11_unseenBy 87 = .ok (.aload_n 0, 1) := by decide +kernel
theorem dX11_unseenBy_88 : decode cX11_unseenBy 88 = .ok (.getfield 13, 3) := by decide +kernel
theorem dX11_unseenBy_91 : decode cX11_unseenBy 91 = .ok (.iconst 0, 1) := by decide +kernel
theorem dX11_unseenBy_92 : decode cX11_unseenBy 92 = .ok (.iaload, 1) := by decide +kernel
theorem dX11_unseenBy_93 : decode cX11_unseenBy 93 = .ok (.if_icmp .ge 14, 3) := by decide +kernel
theorem dX11_unseenBy_96 : decode cX11_unseenBy 96 = .ok (.iload 8, 2) := by decide +kernel
theorem dX11_unseenBy_98 : decode cX11_unseenBy 98 = .ok (.iload 4, 2) := by decide +kernel
theorem dX11_unseenBy_100 : decode cX11_unseenBy 100 = .ok (.if_icmp .ge 7, 3) := by decide +kernel
theorem dX11_unseenBy_103 : decode cX11_unseenBy 103 = .ok (.iconst 1, 1) := by decide +kernel
theorem dX11_unseenBy_104 : decode cX11_unseenBy 104 = .ok (.goto 4, 3) := by decide +kernel
theorem dX11_unseenBy_107 : decode cX11_unseenBy 107 = .ok (.iconst 0, 1) := by decide +kernel
theorem dX11_unseenBy_108 : decode cX11_unseenBy 108 = .ok (.iadd, 1) := by decide +kernel
theorem dX11_unseenBy_109 : decode cX11_unseenBy 109 = .ok (.istore 5, 2) := by decide +kernel
theorem dX11_unseenBy_111 : decode cX11_unseenBy 111 = .ok (.iinc 6 1, 3) := by decide +kernel
theorem dX11_unseenBy_114 : decode cX11_unseenBy 114 = .ok (.goto (-108), 3) := by decide +kernel
theorem dX11_unseenBy_117 : decode cX11_unseenBy 117 = .ok (.iload 5, 2) := by decide +kernel
theorem dX11_unseenBy_119 : decode cX11_unseenBy 119 = .ok (.ireturn, 1) := by decide +kernel
set_option maxRecDepth 20000 in
theorem ggX11_seats_X11_in : GoodIn wsX11_seats wsX11_in := goodIn_r _ [5] (by decide +kernel) (by decide +kernel)
set_option maxRecDepth 20000 in
theorem gX11_seats_X11_in : GoodIn wsX11_seats (va_wsS RX11 80 yX11_in wsX11_in) := goodIn_app (goodIn_of _ (by decide +kernel)) ggX11_seats_X11_in
set_option maxRecDepth 20000 in
theorem ggX11_seats_X11_unseenBy : GoodIn wsX11_seats wsX11_unseenBy := goodIn_r _ [9, 10, 11, 12, 13, 14, 4, 15, 16, 17, 18, 19, 20, 21, 22, 23, 24, 25, 26, 27, 28, 29, 30, 31, 32, 33, 34, 35, 36, 37, 38, 39] (by decide +kernel) (by decide +kernel)
set_option maxRecDepth 20000 in
theorem gX11_seats_X11_unseenBy : GoodIn wsX11_seats (wsV RX11 217 RX11 yX11_unseenBy wsX11_unseenBy) := goodIn_app (goodIn_of _ (by decide +kernel)) ggX11_seats_X11_unseenBy
theorem dX11_seats_0 : decode cX11_seats 0 = .ok (.iload_n 1, 1) := by decide +kernel
theorem dX11_seats_1 : decode cX11_seats 1 = .ok (.i2l, 1) := by decide +kernel
theorem dX11_seats_2 : decode cX11_seats 2 = .ok (.lconst 0, 1) := by decide +kernel
theorem dX11_seats_3 : decode cX11_seats 3 = .ok (.ldc2_w 215, 3) := by decide +kernel
theorem dX11_seats_6 : decode cX11_seats 6 = .ok (.invokestatic 80, 3) := by decide +kernel
theorem dX11_seats_9 : decode cX11_seats 9 = .ok (.ifCond .ne 5, 3) := by decide +kernel
theorem dX11_seats_12 : decode cX11_seats 12 = .ok (.iconst (-1), 1) := by decide +kernel
theorem dX11_seats_13 : decode cX11_seats 13 = .ok (.ireturn, 1) := by decide +kernel
theorem dX11_seats_14 : decode cX11_seats 14 = .ok (.bipush (-4), 2) := by decide +kernel
theorem dX11_seats_16 : decode cX11_seats 16 = .ok (.istore_n 2, 1) := by decide +kernel
theorem dX11_seats_17 : decode cX11_seats 17 = .ok (.iconst 0, 1) := by decide +kernel
theorem dX11_seats_18 : decode cX11_seats 18 = .ok (.istore_n 3, 1) := by decide +kernel
theorem dX11_seats_19 : decode cX11_seats 19 = .ok (.iconst 0, 1) := by decide +kernel
theorem dX11_seats_20 : decode cX11_seats 20 = .ok (.istore 4, 2) := by decide +kernel
theorem dX11_seats_22 : decode cX11_seats 22 = .ok (.iload 4, 2) := by decide +kernel
theorem dX11_seats_24 : decode cX11_seats 24 = .ok (.bipush 12, 2) := by decide +kernel
theorem dX11_seats_26 : decode cX11_seats 26 = .ok (.if_icmp .ge 104, 3) := by decide +kernel
theorem dX11_seats_29 : decode cX11_seats 29 = .ok (.iload 4, 2) := by decide +kernel
theorem dX11_seats_31 : decode cX11_seats 31 = .ok (.iconst 1, 1) := by decide +kernel
theorem dX11_seats_32 : decode cX11_seats 32 = .ok (.iadd, 1) := by decide +kernel
theorem dX11_seats_33 : decode cX11_seats 33 = .ok (.istore 5, 2) := by decide +kernel
theorem dX11_seats_35 : decode cX11_seats 35 = .ok (.iload 5, 2) := by decide +kernel
theorem dX11_seats_37 : decode cX11_seats 37 = .ok (.bipush 12, 2) := by decide +kernel
theorem dX11_seats_39 : decode cX11_seats 39 = .ok (.if_icmp .ge 85, 3) := by decide +kernel
theorem dX11_seats_42 : decode cX11_seats 42 = .ok (.iload 5, 2) := by decide +kernel
theorem dX11_seats_44 : decode cX11_seats 44 = .ok (.iconst 1, 1) := by decide +kernel
theorem dX11_seats_45 : decode cX11_seats 45 = .ok (.iadd, 1) := by decide +kernel
theorem dX11_seats_46 : decode cX11_seats 46 = .ok (.istore 6, 2) := by decide +kernel
theorem dX11_seats_48 : decode cX11_seats 48 = .ok (.iload 6, 2) := by decide +kernel
theorem dX11_seats_50 : decode cX11_seats 50 = .ok (.bipush 12, 2) := by decide +kernel
theorem dX11_seats_52 : decode cX11_seats 52 = .ok (.if_icmp .ge 66, 3) := by decide +kernel
theorem dX11_seats_55 : decode cX11_seats 55 = .ok (.bipush 100, 2) := by decide +kernel
theorem dX11_seats_57 : decode cX11_seats 57 = .ok (.aload_n 0, 1) := by decide +kernel
theorem dX11_seats_58 : decode cX11_seats 58 = .ok (.iload 4, 2) := by decide +kernel
theorem dX11_seats_60 : decode cX11_seats 60 = .ok (.iload 5, 2) := by decide +kernel
theorem dX11_seats_62 : decode cX11_seats 62 = .ok (.iload 6, 2) := by decide +kernel
theorem dX11_seats_64 : decode cX11_seats 64 = .ok (.iconst 2, 1) := by decide +kernel
theorem dX11_seats_65 : decode cX11_seats 65 = .ok (.invokevirtual 217, 3) := by decide +kernel
theorem dX11_seats_68 : decode cX11_seats 68 = .ok (.imul, 1) := by decide +kernel
theorem dX11_seats_69 : decode cX11_seats 69 = .ok (.aload_n 0, 1) := by decide +kernel
theorem dX11_seats_70 : decode cX11_seats 70 = .ok (.iload 4, 2) := by decide +kernel
theorem dX11_seats_72 : decode cX11_seats 72 = .ok (.iload 5, 2) := by decide +kernel
theorem dX11_seats_74 : decode cX11_seats 74 = .ok (.iload 6, 2) := by decide +kernel
theorem dX11_seats_76 : decode cX11_seats 76 = .ok (.iconst 1, 1) := by decide +kernel
theorem dX11_seats_77 : decode cX11_seats 77 = .ok (.invokevirtual 217, 3) := by decide +kernel
theorem dX11_seats_80 : decode cX11_seats 80 = .ok (.iadd, 1) := by decide +kernel
theorem dX11_seats_81 : decode cX11_seats 81 = .ok (.istore 7, 2) := by decide +kernel
theorem dX11_seats_83 : decode cX11_seats 83 = .ok (.iload_n 2, 1) := by decide +kernel
theorem dX11_seats_84 : decode cX11_seats 84 = .ok (.ifCond .lt 9, 3) := by decide +kernel
theorem dX11_seats_87 : decode cX11_seats 87 = .ok (.iload 7, 2) := by decide +kernel
theorem dX11_seats_89 : decode cX11_seats 89 = .ok (.iload_n 3, 1) := by decide +kernel
theorem dX11_seats_90 : decode cX11_seats 90 = .ok (.if_icmp .ge 22, 3) := by decide +kernel
theorem dX11_seats_93 : decode cX11_seats 93 = .ok (.sipush 144, 3) := by decide +kernel
theorem dX11_seats_96 : decode cX11_seats 96 = .ok (.iload 4, 2) := by decide +kernel
theorem dX11_seats_98 : decode cX11_seats 98 = .ok (.imul, 1) := by decide +kernel
theorem dX11_seats_99 : decode cX11_seats 99 = .ok (.bipush 12, 2) := by decide +kernel
theorem dX11_seats_101 : decode cX11_seats 101 = .ok (.iload 5, 2) := by decide +kernel
theorem dX11_seats_103 : decode cX11_seats 103 = .ok (.imul, 1) := by decide +kernel
theorem dX11_seats_104 : decode cX11_seats 104 = .ok (.iadd, 1) := by decide +kernel
theorem dX11_seats_105 : decode cX11_seats 105 = .ok (.iload 6, 2) := by decide +kernel
theorem dX11_seats_107 : decode cX11_seats 107 = .ok (.iadd, 1) := by decide +kernel
theorem dX11_seats_108 : decode cX11_seats 108 = .ok (.istore_n 2, 1) := by decide +kernel
theorem dX11_seats_109 : decode cX11_seats 109 = .ok (.iload 7, 2) := by decide +kernel
theorem dX11_seats_111 : decode cX11_seats 111 = .ok (.istore_n 3, 1) := by decide +kernel
theorem dX11_seats_112 : decode cX11_seats 112 = .ok (.iinc 6 1, 3) := by decide +kernel
theorem dX11_seats_115 : decode cX11_seats 115 = .ok (.goto (-67), 3) := by decide +kernel
theorem dX11_seats_118 : decode cX11_seats 118 = .ok (.iinc 5 1, 3) := by decide +kernel
theorem dX11_seats_121 : decode cX11_seats 121 = .ok (.goto (-86), 3) := by decide +kernel
theorem dX11_seats_124 : decode cX11_seats 124 = .ok (.iinc 4 1, 3) := by decide +kernel
theorem dX11_seats_127 : decode cX11_seats 127 = .ok (.goto (-105), 3) := by decide +kernel
theorem dX11_seats_130 : decode cX11_seats 130 = .ok (.iload_n 1, 1) := by decide +kernel
theorem dX11_seats_131 : decode cX11_seats 131 = .ok (.tableswitch 53 0 3 #[29, 35, 43, 48], 29) := by decide +kernel
theorem dX11_seats_160 : decode cX11_seats 160 = .ok (.iload_n 2, 1) := by decide +kernel
theorem dX11_seats_161 : decode cX11_seats 161 = .ok (.sipush 144, 3) := by decide +kernel
theorem dX11_seats_164 : decode cX11_seats 164 = .ok (.idiv, 1) := by decide +kernel
theorem dX11_seats_165 : decode cX11_seats 165 = .ok (.ireturn, 1) := by decide +kernel
theorem dX11_seats_166 : decode cX11_seats 166 = .ok (.iload_n 2, 1) := by decide +kernel
theorem dX11_seats_167 : decode cX11_seats 167 = .ok (.bipush 12, 2) := by decide +kernel
theorem dX11_seats_169 : decode cX11_seats 169 = .ok (.idiv, 1) := by decide +kernel
theorem dX11_seats_170 : decode cX11_seats 170 = .ok (.bipush 12, 2) := by decide +kernel
theorem dX11_seats_172 : decode cX11_seats 172 = .ok (.irem, 1) := by decide +kernel
theorem dX11_seats_173 : decode cX11_seats 173 = .ok (.ireturn, 1) := by decide +kernel
theorem dX11_seats_174 : decode cX11_seats 174 = .ok (.iload_n 2, 1) := by decide +kernel
theorem dX11_seats_175 : decode cX11_seats 175 = .ok (.bipush 12, 2) := by decide +kernel
theorem dX11_seats_177 : decode cX11_seats 177 = .ok (.irem, 1) := by decide +kernel
theorem dX11_seats_178 : decode cX11_seats 178 = .ok (.ireturn, 1) := by decide +kernel
theorem dX11_seats_179 : decode cX11_seats 179 = .ok (.iload_n 3, 1) := by decide +kernel
theorem dX11_seats_180 : decode cX11_seats 180 = .ok (.bipush 100, 2) := by decide +kernel
theorem dX11_seats_182 : decode cX11_seats 182 = .ok (.idiv, 1) := by decide +kernel
theorem dX11_seats_183 : decode cX11_seats 183 = .ok (.ireturn, 1) := by decide +kernel
theorem dX11_seats_184 : decode cX11_seats 184 = .ok (.iload_n 3, 1) := by decide +kernel
theorem dX11_seats_185 : decode cX11_seats 185 = .ok (.bipush 100, 2) := by decide +kernel
theorem dX11_seats_187 : decode cX11_seats 187 = .ok (.irem, 1) := by decide +kernel
theorem dX11_seats_188 : decode cX11_seats 188 = .ok (.ireturn, 1) := by decide +kernel
set_option maxRecDepth 20000 in
theorem ggX11_delay_X11_isJudge : GoodIn wsX11_delay wsX11_isJudge := goodIn_r _ [7, 8, 9, 10, 6, 11, 12, 13, 14, 15, 16, 17, 18, 19, 20, 21, 22, 23, 24, 25, 26, 27, 28, 29, 30, 31, 32, 33, 34, 35] (by decide +kernel) (by decide +kernel)
set_option maxRecDepth 20000 in
theorem gX11_delay_X11_isJudge : GoodIn wsX11_delay (wsV RX11 149 RX11 yX11_isJudge wsX11_isJudge) := goodIn_app (goodIn_of _ (by decide +kernel)) ggX11_delay_X11_isJudge
set_option maxRecDepth 20000 in
theorem ggX11_delay_X11_in : GoodIn wsX11_delay wsX11_in := goodIn_r _ [11] (by decide +kernel) (by decide +kernel)
set_option maxRecDepth 20000 in
theorem gX11_delay_X11_in : GoodIn wsX11_delay (va_wsS RX11 80 yX11_in wsX11_in) := goodIn_app (goodIn_of _ (by decide +kernel)) ggX11_delay_X11_in
theorem dX11_delay_0 : decode cX11_delay 0 = .ok (.aload_n 0, 1) := by decide +kernel
theorem dX11_delay_1 : decode cX11_delay 1 = .ok (.iload_n 1, 1) := by decide +kernel
theorem dX11_delay_2 : decode cX11_delay 2 = .ok (.invokevirtual 149, 3) := by decide +kernel
theorem dX11_delay_5 : decode cX11_delay 5 = .ok (.ifCond .eq 15, 3) := by decide +kernel
theorem dX11_delay_8 : decode cX11_delay 8 = .ok (.iload_n 2, 1) := by decide +kernel
theorem dX11_delay_9 : decode cX11_delay 9 = .ok (.i2l, 1) := by decide +kernel
theorem dX11_delay_10 : decode cX11_delay 10 = .ok (.lconst 0, 1) := by decide +kernel
theorem dX11_delay_11 : decode cX11_delay 11 = .ok (.ldc2_w 107, 3) := by decide +kernel
theorem dX11_delay_14 : decode cX11_delay 14 = .ok (.invokestatic 80, 3) := by decide +kernel
theorem dX11_delay_17 : decode cX11_delay 17 = .ok (.ifCond .ne 5, 3) := by decide +kernel
theorem dX11_delay_20 : decode cX11_delay 20 = .ok (.iconst (-1), 1) := by decide +kernel
theorem dX11_delay_21 : decode cX11_delay 21 = .ok (.ireturn, 1) := by decide +kernel
theorem dX11_delay_22 : decode cX11_delay 22 = .ok (.aload_n 0, 1) := by decide +kernel
theorem dX11_delay_23 : decode cX11_delay 23 = .ok (.getfield 43, 3) := by decide +kernel
theorem dX11_delay_26 : decode cX11_delay 26 = .ok (.iload_n 1, 1) := by decide +kernel
theorem dX11_delay_27 : decode cX11_delay 27 = .ok (.iaload, 1) := by decide +kernel
theorem dX11_delay_28 : decode cX11_delay 28 = .ok (.istore_n 3, 1) := by decide +kernel
theorem dX11_delay_29 : decode cX11_delay 29 = .ok (.aload_n 0, 1) := by decide +kernel
theorem dX11_delay_30 : decode cX11_delay 30 = .ok (.getfield 43, 3) := by decide +kernel
theorem dX11_delay_33 : decode cX11_delay 33 = .ok (.iload_n 1, 1) := by decide +kernel
theorem dX11_delay_34 : decode cX11_delay 34 = .ok (.iload_n 2, 1) := by decide +kernel
theorem dX11_delay_35 : decode cX11_delay 35 = .ok (.iastore, 1) := by decide +kernel
theorem dX11_delay_36 : decode cX11_delay 36 = .ok (.iload_n 3, 1) := by decide +kernel
theorem dX11_delay_37 : decode cX11_delay 37 = .ok (.ireturn, 1) := by decide +kernel
set_option maxRecDepth 20000 in
theorem ggX11_pointsBy_X11_sees : GoodIn wsX11_pointsBy wsX11_sees := goodIn_r _ [10, 11, 4, 12, 13, 9, 14, 27, 28, 29, 30, 31, 32, 33, 34, 35, 36, 37, 38, 39, 40, 41, 42, 43, 44, 45, 46, 47, 48, 49, 50] (by decide +kernel) (by decide +kernel)
set_option maxRecDepth 20000 in
theorem gX11_pointsBy_X11_sees : GoodIn wsX11_pointsBy (wsV RX11 138 RX11 yX11_sees wsX11_sees) := goodIn_app (goodIn_of _ (by decide +kernel)) ggX11_pointsBy_X11_sees
set_option maxRecDepth 20000 in
theorem ggX11_pointsBy_X11_pressing : GoodIn wsX11_pointsBy wsX11_pressing := goodIn_r _ [18, 19, 20, 21, 9, 22, 1, 27, 28, 29, 30, 31, 32, 33, 34, 35, 36, 37, 38, 39, 40, 41, 42, 43, 44, 45, 46, 47, 48, 49, 50] (by decide +kernel) (by decide +kernel)
set_option maxRecDepth 20000 in
theorem gX11_pointsBy_X11_pressing : GoodIn wsX11_pointsBy (wsV RX11 221 RX11 yX11_pressing wsX11_pressing) := goodIn_app (goodIn_of _ (by decide +kernel)) ggX11_pointsBy_X11_pressing
set_option maxRecDepth 20000 in
theorem ggX11_pointsBy_X11_use : GoodIn wsX11_pointsBy wsX11_use := goodIn_r _ [26, 1, 19, 20, 21, 9, 22, 27, 28, 29, 30, 31, 32, 33, 34, 35, 36, 37, 38, 39, 40, 41, 42, 43, 44, 45, 46, 47, 48, 49, 50] (by decide +kernel) (by decide +kernel)
set_option maxRecDepth 20000 in
theorem gX11_pointsBy_X11_use : GoodIn wsX11_pointsBy (wsV RX11 224 RX11 yX11_use wsX11_use) := goodIn_app (goodIn_of _ (by decide +kernel)) ggX11_pointsBy_X11_use
theorem dX11_pointsBy_0 : decode cX11_pointsBy 0 = .ok (.iconst 0, 1) := by decide +kernel
theorem dX11_pointsBy_1 : decode cX11_pointsBy 1 = .ok (.istore 5, 2) := by decide +kernel
theorem dX11_pointsBy_3 : decode cX11_pointsBy 3 = .ok (.iload 5, 2) := by decide +kernel
theorem dX11_pointsBy_5 : decode cX11_pointsBy 5 = .ok (.sipush 1520, 3) := by decide +kernel
theorem dX11_pointsBy_8 : decode cX11_pointsBy 8 = .ok (.if_icmp .ge 17, 3) := by decide +kernel
theorem dX11_pointsBy_11 : decode cX11_pointsBy 11 = .ok (.aload_n 0, 1) := by decide +kernel
theorem dX11_pointsBy_12 : decode cX11_pointsBy 12 = .ok (.getfield 65, 3) := by decide +kernel
theorem dX11_pointsBy_15 : decode cX11_pointsBy 15 = .ok (.iload 5, 2) := by decide +kernel
theorem dX11_pointsBy_17 : decode cX11_pointsBy 17 = .ok (.iconst 0, 1) := by decide +kernel
theorem dX11_pointsBy_18 : decode cX11_pointsBy 18 = .ok (.iastore, 1) := by decide +kernel
theorem dX11_pointsBy_19 : decode cX11_pointsBy 19 = .ok (.iinc 5 1, 3) := by decide +kernel
theorem dX11_pointsBy_22 : decode cX11_pointsBy 22 = .ok (.goto (-19), 3) := by decide +kernel
theorem dX11_pointsBy_25 : decode cX11_pointsBy 25 = .ok (.iconst 0, 1) := by decide +kernel
theorem dX11_pointsBy_26 : decode cX11_pointsBy 26 = .ok (.istore 5, 2) := by decide +kernel
theorem dX11_pointsBy_28 : decode cX11_pointsBy 28 = .ok (.iload 5, 2) := by decide +kernel
theorem dX11_pointsBy_30 : decode cX11_pointsBy 30 = .ok (.aload_n 0, 1) := by decide +kernel
theorem dX11_pointsBy_31 : decode cX11_pointsBy 31 = .ok (.getfield 16, 3) := by decide +kernel
theorem dX11_pointsBy_34 : decode cX11_pointsBy 34 = .ok (.iconst 0, 1) := by decide +kernel
theorem dX11_pointsBy_35 : decode cX11_pointsBy 35 = .ok (.iaload, 1) := by decide +kernel
theorem dX11_pointsBy_36 : decode cX11_pointsBy 36 = .ok (.if_icmp .ge 102, 3) := by decide +kernel
theorem dX11_pointsBy_39 : decode cX11_pointsBy 39 = .ok (.iconst 0, 1) := by decide +kernel
theorem dX11_pointsBy_40 : decode cX11_pointsBy 40 = .ok (.istore 6, 2) := by decide +kernel
theorem dX11_pointsBy_42 : decode cX11_pointsBy 42 = .ok (.iload 6, 2) := by decide +kernel
theorem dX11_pointsBy_44 : decode cX11_pointsBy 44 = .ok (.aload_n 0, 1) := by decide +kernel
theorem dX11_pointsBy_45 : decode cX11_pointsBy 45 = .ok (.getfield 37, 3) := by decide +kernel
theorem dX11_pointsBy_48 : decode cX11_pointsBy 48 = .ok (.iconst 0, 1) := by decide +kernel
theorem dX11_pointsBy_49 : decode cX11_pointsBy 49 = .ok (.iaload, 1) := by decide +kernel
theorem dX11_pointsBy_50 : decode cX11_pointsBy 50 = .ok (.if_icmp .ge 82, 3) := by decide +kernel
theorem dX11_pointsBy_53 : decode cX11_pointsBy 53 = .ok (.aload_n 0, 1) := by decide +kernel
theorem dX11_pointsBy_54 : decode cX11_pointsBy 54 = .ok (.getfield 19, 3) := by decide +kernel
theorem dX11_pointsBy_57 : decode cX11_pointsBy 57 = .ok (.iconst 5, 1) := by decide +kernel
theorem dX11_pointsBy_58 : decode cX11_pointsBy 58 = .ok (.iload 5, 2) := by decide +kernel
theorem dX11_pointsBy_60 : decode cX11_pointsBy 60 = .ok (.imul, 1) := by decide +kernel
theorem dX11_pointsBy_61 : decode cX11_pointsBy 61 = .ok (.iaload, 1) := by decide +kernel
theorem dX11_pointsBy_62 : decode cX11_pointsBy 62 = .ok (.iload_n 1, 1) := by decide +kernel
theorem dX11_pointsBy_63 : decode cX11_pointsBy 63 = .ok (.if_icmp .ne 63, 3) := by decide +kernel
theorem dX11_pointsBy_66 : decode cX11_pointsBy 66 = .ok (.aload_n 0, 1) := by decide +kernel
theorem dX11_pointsBy_67 : decode cX11_pointsBy 67 = .ok (.getfield 19, 3) := by decide +kernel
theorem dX11_pointsBy_70 : decode cX11_pointsBy 70 = .ok (.iconst 5, 1) := by decide +kernel
theorem dX11_pointsBy_71 : decode cX11_pointsBy 71 = .ok (.iload 5, 2) := by decide +kernel
theorem dX11_pointsBy_73 : decode cX11_pointsBy 73 = .ok (.imul, 1) := by decide +kernel
theorem dX11_pointsBy_74 : decode cX11_pointsBy 74 = .ok (.iconst 2, 1) := by decide +kernel
theorem dX11_pointsBy_75 : decode cX11_pointsBy 75 = .ok (.iadd, 1) := by decide +kernel
theorem dX11_pointsBy_76 : decode cX11_pointsBy 76 = .ok (.iaload, 1) := by decide +kernel
theorem dX11_pointsBy_77 : decode cX11_pointsBy 77 = .ok (.iload_n 2, 1) := by decide +kernel
theorem dX11_pointsBy_78 : decode cX11_pointsBy 78 = .ok (.if_icmp .ne 48, 3) := by decide +kernel
theorem dX11_pointsBy_81 : decode cX11_pointsBy 81 = .ok (.aload_n 0, 1) := by decide +kernel
theorem dX11_pointsBy_82 : decode cX11_pointsBy 82 = .ok (.iload 6, 2) := by decide +kernel
theorem dX11_pointsBy_84 : decode cX11_pointsBy 84 = .ok (.iload 5, 2) := by decide +kernel
theorem dX11_pointsBy_86 : decode cX11_pointsBy 86 = .ok (.invokevirtual 138, 3) := by decide +kernel
theorem dX11_pointsBy_89 : decode cX11_pointsBy 89 = .ok (.ifCond .eq 37, 3) := by decide +kernel
theorem dX11_pointsBy_92 : decode cX11_pointsBy 92 = .ok (.aload_n 0, 1) := by decide +kernel
theorem dX11_pointsBy_93 : decode cX11_pointsBy 93 = .ok (.getfield 65, 3) := by decide +kernel
theorem dX11_pointsBy_96 : decode cX11_pointsBy 96 = .ok (.bipush 8, 2) := by decide +kernel
theorem dX11_pointsBy_98 : decode cX11_pointsBy 98 = .ok (.aload_n 0, 1) := by decide +kernel
theorem dX11_pointsBy_99 : decode cX11_pointsBy 99 = .ok (.getfield 19, 3) := by decide +kernel
theorem dX11_pointsBy_102 : decode cX11_pointsBy 102 = .ok (.iconst 5, 1) := by decide +kernel
theorem dX11_pointsBy_103 : decode cX11_pointsBy 103 = .ok (.iload 5, 2) := by decide +kernel
theorem dX11_pointsBy_105 : decode cX11_pointsBy 105 = .ok (.imul, 1) := by decide +kernel
theorem dX11_pointsBy_106 : decode cX11_pointsBy 106 = .ok (.iconst 1, 1) := by decide +kernel
theorem dX11_pointsBy_107 : decode cX11_pointsBy 107 = .ok (.iadd, 1) := by decide +kernel
theorem dX11_pointsBy_108 : decode cX11_pointsBy 108 = .ok (.iaload, 1) := by decide +kernel
theorem dX11_pointsBy_109 : decode cX11_pointsBy 109 = .ok (.aload_n 0, 1) := by decide +kernel
theorem dX11_pointsBy_110 : decode cX11_pointsBy 110 = .ok (.getfield 43, 3) := by decide +kernel
theorem dX11_pointsBy_113 : decode cX11_pointsBy 113 = .ok (.iload 6, 2) := by decide +kernel
theorem dX11_pointsBy_115 : decode cX11_pointsBy 115 = .ok (.iaload, 1) := by decide +kernel
theorem dX11_pointsBy_116 : decode cX11_pointsBy 116 = .ok (.iadd, 1) := by decide +kernel
theorem dX11_pointsBy_117 : decode cX11_pointsBy 117 = .ok (.imul, 1) := by decide +kernel
theorem dX11_pointsBy_118 : decode cX11_pointsBy 118 = .ok (.iload 6, 2) := by decide +kernel
theorem dX11_pointsBy_120 : decode cX11_pointsBy 120 = .ok (.iadd, 1) := by decide +kernel
theorem dX11_pointsBy_121 : decode cX11_pointsBy 121 = .ok (.dup2, 1) := by decide +kernel
theorem dX11_pointsBy_122 : decode cX11_pointsBy 122 = .ok (.iaload, 1) := by decide +kernel
theorem dX11_pointsBy_123 : decode cX11_pointsBy 123 = .ok (.iconst 1, 1) := by decide +kernel
theorem dX11_pointsBy_124 : decode cX11_pointsBy 124 = .ok (.iadd, 1) := by decide +kernel
theorem dX11_pointsBy_125 : decode cX11_pointsBy 125 = .ok (.iastore, 1) := by decide +kernel
theorem dX11_pointsBy_126 : decode cX11_pointsBy 126 = .ok (.iinc 6 1, 3) := by decide +kernel
theorem dX11_pointsBy_129 : decode cX11_pointsBy 129 = .ok (.goto (-87), 3) := by decide +kernel
theorem dX11_pointsBy_132 : decode cX11_pointsBy 132 = .ok (.iinc 5 1, 3) := by decide +kernel
theorem dX11_pointsBy_135 : decode cX11_pointsBy 135 = .ok (.goto (-107), 3) := by decide +kernel
theorem dX11_pointsBy_138 : decode cX11_pointsBy 138 = .ok (.iconst 0, 1) := by decide +kernel
theorem dX11_pointsBy_139 : decode cX11_pointsBy 139 = .ok (.istore 5, 2) := by decide +kernel
theorem dX11_pointsBy_141 : decode cX11_pointsBy 141 = .ok (.iconst 0, 1) := by decide +kernel
theorem dX11_pointsBy_142 : decode cX11_pointsBy 142 = .ok (.istore 6, 2) := by decide +kernel
theorem dX11_pointsBy_144 : decode cX11_pointsBy 144 = .ok (.iload 6, 2) := by decide +kernel
theorem dX11_pointsBy_146 : decode cX11_pointsBy 146 = .ok (.sipush 1520, 3) := by decide +kernel
theorem dX11_pointsBy_149 : decode cX11_pointsBy 149 = .ok (.if_icmp .ge 65, 3) := by decide +kernel
theorem dX11_pointsBy_152 : decode cX11_pointsBy 152 = .ok (.aload_n 0, 1) := by decide +kernel
theorem dX11_pointsBy_153 : decode cX11_pointsBy 153 = .ok (.getfield 65, 3) := by decide +kernel
theorem dX11_pointsBy_156 : decode cX11_pointsBy 156 = .ok (.iload 6, 2) := by decide +kernel
theorem dX11_pointsBy_158 : decode cX11_pointsBy 158 = .ok (.iaload, 1) := by decide +kernel
theorem dX11_pointsBy_159 : decode cX11_pointsBy 159 = .ok (.ifCond .ne 9, 3) := by decide +kernel
theorem dX11_pointsBy_162 : decode cX11_pointsBy 162 = .ok (.iinc 6 1, 3) := by decide +kernel
theorem dX11_pointsBy_165 : decode cX11_pointsBy 165 = .ok (.goto (-21), 3) := by decide +kernel
theorem dX11_pointsBy_168 : decode cX11_pointsBy 168 = .ok (.aload_n 0, 1) := by decide +kernel
theorem dX11_pointsBy_169 : decode cX11_pointsBy 169 = .ok (.iload 6, 2) := by decide +kernel
theorem dX11_pointsBy_171 : decode cX11_pointsBy 171 = .ok (.bipush 8, 2) := by decide +kernel
theorem dX11_pointsBy_173 : decode cX11_pointsBy 173 = .ok (.idiv, 1) := by decide +kernel
theorem dX11_pointsBy_174 : decode cX11_pointsBy 174 = .ok (.iload 4, 2) := by decide +kernel
theorem dX11_pointsBy_176 : decode cX11_pointsBy 176 = .ok (.invokevirtual 221, 3) := by decide +kernel
theorem dX11_pointsBy_179 : decode cX11_pointsBy 179 = .ok (.iload_n 3, 1) := by decide +kernel
theorem dX11_pointsBy_180 : decode cX11_pointsBy 180 = .ok (.if_icmp .lt 20, 3) := by decide +kernel
theorem dX11_pointsBy_183 : decode cX11_pointsBy 183 = .ok (.iinc 5 1, 3) := by decide +kernel
theorem dX11_pointsBy_186 : decode cX11_pointsBy 186 = .ok (.aload_n 0, 1) := by decide +kernel
theorem dX11_pointsBy_187 : decode cX11_pointsBy 187 = .ok (.iload 6, 2) := by decide +kernel
theorem dX11_pointsBy_189 : decode cX11_pointsBy 189 = .ok (.bipush 8, 2) := by decide +kernel
theorem dX11_pointsBy_191 : decode cX11_pointsBy 191 = .ok (.idiv, 1) := by decide +kernel
theorem dX11_pointsBy_192 : decode cX11_pointsBy 192 = .ok (.iload 4, 2) := by decide +kernel
theorem dX11_pointsBy_194 : decode cX11_pointsBy 194 = .ok (.invokevirtual 224, 3) := by decide +kernel
theorem dX11_pointsBy_197 : decode cX11_pointsBy 197 = .ok (.goto (-53), 3) := by decide +kernel
theorem dX11_pointsBy_200 : decode cX11_pointsBy 200 = .ok (.aload_n 0, 1) := by decide +kernel
theorem dX11_pointsBy_201 : decode cX11_pointsBy 201 = .ok (.getfield 65, 3) := by decide +kernel
theorem dX11_pointsBy_204 : decode cX11_pointsBy 204 = .ok (.iload 6, 2) := by decide +kernel
theorem dX11_pointsBy_206 : decode cX11_pointsBy 206 = .ok (.dup2, 1) := by decide +kernel
theorem dX11_pointsBy_207 : decode cX11_pointsBy 207 = .ok (.iaload, 1) := by decide +kernel
theorem dX11_pointsBy_208 : decode cX11_pointsBy 208 = .ok (.iconst 1, 1) := by decide +kernel
theorem dX11_pointsBy_209 : decode cX11_pointsBy 209 = .ok (.isub, 1) := by decide +kernel
theorem dX11_pointsBy_210 : decode cX11_pointsBy 210 = .ok (.iastore, 1) := by decide +kernel
theorem dX11_pointsBy_211 : decode cX11_pointsBy 211 = .ok (.goto (-67), 3) := by decide +kernel
theorem dX11_pointsBy_214 : decode cX11_pointsBy 214 = .ok (.iload 5, 2) := by decide +kernel
theorem dX11_pointsBy_216 : decode cX11_pointsBy 216 = .ok (.ireturn, 1) := by decide +kernel
theorem dX11_pressOf_0 : decode cX11_pressOf 0 = .ok (.iload_n 2, 1) := by decide +kernel
theorem dX11_pressOf_1 : decode cX11_pressOf 1 = .ok (.istore 4, 2) := by decide +kernel
theorem dX11_pressOf_3 : decode cX11_pressOf 3 = .ok (.iload 4, 2) := by decide +kernel
theorem dX11_pressOf_5 : decode cX11_pressOf 5 = .ok (.iload_n 3, 1) := by decide +kernel
theorem dX11_pressOf_6 : decode cX11_pressOf 6 = .ok (.if_icmp .gt 35, 3) := by decide +kernel
theorem dX11_pressOf_9 : decode cX11_pressOf 9 = .ok (.iload 4, 2) := by decide +kernel
theorem dX11_pressOf_11 : decode cX11_pressOf 11 = .ok (.sipush 190, 3) := by decide +kernel
theorem dX11_pressOf_14 : decode cX11_pressOf 14 = .ok (.if_icmp .ge 27, 3) := by decide +kernel
theorem dX11_pressOf_17 : decode cX11_pressOf 17 = .ok (.aload_n 0, 1) := by decide +kernel
theorem dX11_pressOf_18 : decode cX11_pressOf 18 = .ok (.getfield 65, 3) := by decide +kernel
theorem dX11_pressOf_21 : decode cX11_pressOf 21 = .ok (.bipush 8, 2) := by decide +kernel
theorem dX11_pressOf_23 : decode cX11_pressOf 23 = .ok (.iload 4, 2) := by decide +kernel
theorem dX11_pressOf_25 : decode cX11_pressOf 25 = .ok (.imul, 1) := by decide +kernel
theorem dX11_pressOf_26 : decode cX11_pressOf 26 = .ok (.iload_n 1, 1) := by decide +kernel
theorem dX11_pressOf_27 : decode cX11_pressOf 27 = .ok (.iadd, 1) := by decide +kernel
theorem dX11_pressOf_28 : decode cX11_pressOf 28 = .ok (.iaload, 1) := by decide +kernel
theorem dX11_pressOf_29 : decode cX11_pressOf 29 = .ok (.ifCond .le 6, 3) := by decide +kernel
theorem dX11_pressOf_32 : decode cX11_pressOf 32 = .ok (.iload 4, 2) := by decide +kernel
theorem dX11_pressOf_34 : decode cX11_pressOf 34 = .ok (.ireturn, 1) := by decide +kernel
theorem dX11_pressOf_35 : decode cX11_pressOf 35 = .ok (.iinc 4 1, 3) := by decide +kernel
theorem dX11_pressOf_38 : decode cX11_pressOf 38 = .ok (.goto (-35), 3) := by decide +kernel
theorem dX11_pressOf_41 : decode cX11_pressOf 41 = .ok (.bipush (-4), 2) := by decide +kernel
theorem dX11_pressOf_43 : decode cX11_pressOf 43 = .ok (.ireturn, 1) := by decide +kernel
set_option maxRecDepth 20000 in
theorem ggX11_pressing_X11_pressOf : GoodIn wsX11_pressing wsX11_pressOf := goodIn_r _ [5, 6, 7, 8, 9, 10, 11, 12, 13, 14, 15, 16, 17, 18, 19, 20, 21, 22, 23, 24, 25, 26, 27, 28, 29, 30] (by decide +kernel) (by decide +kernel)
set_option maxRecDepth 20000 in
theorem gX11_pressing_X11_pressOf : GoodIn wsX11_pressing (wsV RX11 228 RX11 yX11_pressOf wsX11_pressOf) := goodIn_app (goodIn_of _ (by decide +kernel)) ggX11_pressing_X11_pressOf
theorem dX11_pressing_0 : decode cX11_pressing 0 = .ok (.iconst 0, 1) := by decide +kernel
theorem dX11_pressing_1 : decode cX11_pressing 1 = .ok (.istore_n 3, 1) := by decide +kernel
theorem dX11_pressing_2 : decode cX11_pressing 2 = .ok (.iconst 0, 1) := by decide +kernel
theorem dX11_pressing_3 : decode cX11_pressing 3 = .ok (.istore 4, 2) := by decide +kernel
theorem dX11_pressing_5 : decode cX11_pressing 5 = .ok (.iload 4, 2) := by decide +kernel
theorem dX11_pressing_7 : decode cX11_pressing 7 = .ok (.bipush 8, 2) := by decide +kernel
theorem dX11_pressing_9 : decode cX11_pressing 9 = .ok (.if_icmp .ge 30, 3) := by decide +kernel
theorem dX11_pressing_12 : decode cX11_pressing 12 = .ok (.iload_n 3, 1) := by decide +kernel
theorem dX11_pressing_13 : decode cX11_pressing 13 = .ok (.aload_n 0, 1) := by decide +kernel
theorem dX11_pressing_14 : decode cX11_pressing 14 = .ok (.iload 4, 2) := by decide +kernel
theorem dX11_pressing_16 : decode cX11_pressing 16 = .ok (.iload_n 1, 1) := by decide +kernel
theorem dX11_pressing_17 : decode cX11_pressing 17 = .ok (.iload_n 1, 1) := by decide +kernel
theorem dX11_pressing_18 : decode cX11_pressing 18 = .ok (.iload_n 2, 1) := by decide +kernel
theorem dX11_pressing_19 : decode cX11_pressing 19 = .ok (.iadd, 1) := by decide +kernel
theorem dX11_pressing_20 : decode cX11_pressing 20 = .ok (.invokevirtual 228, 3) := by decide +kernel
theorem dX11_pressing_23 : decode cX11_pressing 23 = .ok (.ifCond .lt 7, 3) := by decide +kernel
theorem dX11_pressing_26 : decode cX11_pressing 26 = .ok (.iconst 1, 1) := by decide +kernel
theorem dX11_pressing_27 : decode cX11_pressing 27 = .ok (.goto 4, 3) := by decide +kernel
theorem dX11_pressing_30 : decode cX11_pressing 30 = .ok (.iconst 0, 1) := by decide +kernel
theorem dX11_pressing_31 : decode cX11_pressing 31 = .ok (.iadd, 1) := by decide +kernel
theorem dX11_pressing_32 : decode cX11_pressing 32 = .ok (.istore_n 3, 1) := by decide +kernel
theorem dX11_pressing_33 : decode cX11_pressing 33 = .ok (.iinc 4 1, 3) := by decide +kernel
theorem dX11_pressing_36 : decode cX11_pressing 36 = .ok (.goto (-31), 3) := by decide +kernel
theorem dX11_pressing_39 : decode cX11_pressing 39 = .ok (.iload_n 3, 1) := by decide +kernel
theorem dX11_pressing_40 : decode cX11_pressing 40 = .ok (.ireturn, 1) := by decide +kernel
set_option maxRecDepth 20000 in
theorem ggX11_use_X11_pressOf : GoodIn wsX11_use wsX11_pressOf := goodIn_r _ [6, 1, 7, 8, 9, 10, 11, 12, 13, 14, 15, 16, 17, 18, 19, 20, 21, 22, 23, 24, 25, 26, 27, 28, 29, 30] (by decide +kernel) (by decide +kernel)
set_option maxRecDepth 20000 in
theorem gX11_use_X11_pressOf : GoodIn wsX11_use (wsV RX11 228 RX11 yX11_pressOf wsX11_pressOf) := goodIn_app (goodIn_of _ (by decide +kernel)) ggX11_use_X11_pressOf
theorem dX11_use_0 : decode cX11_use 0 = .ok (.iconst 0, 1) := by decide +kernel
theorem dX11_use_1 : decode cX11_use 1 = .ok (.istore_n 3, 1) := by decide +kernel
theorem dX11_use_2 : decode cX11_use 2 = .ok (.iload_n 3, 1) := by decide +kernel
theorem dX11_use_3 : decode cX11_use 3 = .ok (.bipush 8, 2) := by decide +kernel
theorem dX11_use_5 : decode cX11_use 5 = .ok (.if_icmp .ge 41, 3) := by decide +kernel
theorem dX11_use_8 : decode cX11_use 8 = .ok (.aload_n 0, 1) := by decide +kernel
theorem dX11_use_9 : decode cX11_use 9 = .ok (.iload_n 3, 1) := by decide +kernel
theorem dX11_use_10 : decode cX11_use 10 = .ok (.iload_n 1, 1) := by decide +kernel
theorem dX11_use_11 : decode cX11_use 11 = .ok (.iload_n 1, 1) := by decide +kernel
theorem dX11_use_12 : decode cX11_use 12 = .ok (.iload_n 2, 1) := by decide +kernel
theorem dX11_use_13 : decode cX11_use 13 = .ok (.iadd, 1) := by decide +kernel
theorem dX11_use_14 : decode cX11_use 14 = .ok (.invokevirtual 228, 3) := by decide +kernel
theorem dX11_use_17 : decode cX11_use 17 = .ok (.istore 4, 2) := by decide +kernel
theorem dX11_use_19 : decode cX11_use 19 = .ok (.iload 4, 2) := by decide +kernel
theorem dX11_use_21 : decode cX11_use 21 = .ok (.ifCond .lt 19, 3) := by decide +kernel
theorem dX11_use_24 : decode cX11_use 24 = .ok (.aload_n 0, 1) := by decide +kernel
theorem dX11_use_25 : decode cX11_use 25 = .ok (.getfield 65, 3) := by decide +kernel
theorem dX11_use_28 : decode cX11_use 28 = .ok (.bipush 8, 2) := by decide +kernel
theorem dX11_use_30 : decode cX11_use 30 = .ok (.iload 4, 2) := by decide +kernel
theorem dX11_use_32 : decode cX11_use 32 = .ok (.imul, 1) := by decide +kernel
theorem dX11_use_33 : decode cX11_use 33 = .ok (.iload_n 3, 1) := by decide +kernel
theorem dX11_use_34 : decode cX11_use 34 = .ok (.iadd, 1) := by decide +kernel
theorem dX11_use_35 : decode cX11_use 35 = .ok (.dup2, 1) := by decide +kernel
theorem dX11_use_36 : decode cX11_use 36 = .ok (.iaload, 1) := by decide +kernel
theorem dX11_use_37 : decode cX11_use 37 = .ok (.iconst 1, 1) := by decide +kernel
theorem dX11_use_38 : decode cX11_use 38 = .ok (.isub, 1) := by decide +kernel
theorem dX11_use_39 : decode cX11_use 39 = .ok (.iastore, 1) := by decide +kernel
theorem dX11_use_40 : decode cX11_use 40 = .ok (.iinc 3 1, 3) := by decide +kernel
theorem dX11_use_43 : decode cX11_use 43 = .ok (.goto (-41), 3) := by decide +kernel
theorem dX11_use_46 : decode cX11_use 46 = .ok (.return_, 1) := by decide +kernel
theorem dX11_blowsIn_0 : decode cX11_blowsIn 0 = .ok (.iconst 0, 1) := by decide +kernel
theorem dX11_blowsIn_1 : decode cX11_blowsIn 1 = .ok (.istore_n 2, 1) := by decide +kernel
theorem dX11_blowsIn_2 : decode cX11_blowsIn 2 = .ok (.iconst 0, 1) := by decide +kernel
theorem dX11_blowsIn_3 : decode cX11_blowsIn 3 = .ok (.istore_n 3, 1) := by decide +kernel
theorem dX11_blowsIn_4 : decode cX11_blowsIn 4 = .ok (.iload_n 3, 1) := by decide +kernel
theorem dX11_blowsIn_5 : decode cX11_blowsIn 5 = .ok (.aload_n 0, 1) := by decide +kernel
theorem dX11_blowsIn_6 : decode cX11_blowsIn 6 = .ok (.getfield 16, 3) := by decide +kernel
theorem dX11_blowsIn_9 : decode cX11_blowsIn 9 = .ok (.iconst 0, 1) := by decide +kernel
theorem dX11_blowsIn_10 : decode cX11_blowsIn 10 = .ok (.iaload, 1) := by decide +kernel
theorem dX11_blowsIn_11 : decode cX11_blowsIn 11 = .ok (.if_icmp .ge 29, 3) := by decide +kernel
theorem dX11_blowsIn_14 : decode cX11_blowsIn 14 = .ok (.iload_n 2, 1) := by decide +kernel
theorem dX11_blowsIn_15 : decode cX11_blowsIn 15 = .ok (.aload_n 0, 1) := by decide +kernel
theorem dX11_blowsIn_16 : decode cX11_blowsIn 16 = .ok (.getfield 19, 3) := by decide +kernel
theorem dX11_blowsIn_19 : decode cX11_blowsIn 19 = .ok (.iconst 5, 1) := by decide +kernel
theorem dX11_blowsIn_20 : decode cX11_blowsIn 20 = .ok (.iload_n 3, 1) := by decide +kernel
theorem dX11_blowsIn_21 : decode cX11_blowsIn 21 = .ok (.imul, 1) := by decide +kernel
theorem dX11_blowsIn_22 : decode cX11_blowsIn 22 = .ok (.iaload, 1) := by decide +kernel
theorem dX11_blowsIn_23 : decode cX11_blowsIn 23 = .ok (.iload_n 1, 1) := by decide +kernel
theorem dX11_blowsIn_24 : decode cX11_blowsIn 24 = .ok (.if_icmp .ne 7, 3) := by decide +kernel
theorem dX11_blowsIn_27 : decode cX11_blowsIn 27 = .ok (.iconst 1, 1) := by decide +kernel
theorem dX11_blowsIn_28 : decode cX11_blowsIn 28 = .ok (.goto 4, 3) := by decide +kernel
theorem dX11_blowsIn_31 : decode cX11_blowsIn 31 = .ok (.iconst 0, 1) := by decide +kernel
theorem dX11_blowsIn_32 : decode cX11_blowsIn 32 = .ok (.iadd, 1) := by decide +kernel
theorem dX11_blowsIn_33 : decode cX11_blowsIn 33 = .ok (.istore_n 2, 1) := by decide +kernel
theorem dX11_blowsIn_34 : decode cX11_blowsIn 34 = .ok (.iinc 3 1, 3) := by decide +kernel
theorem dX11_blowsIn_37 : decode cX11_blowsIn 37 = .ok (.goto (-33), 3) := by decide +kernel
theorem dX11_blowsIn_40 : decode cX11_blowsIn 40 = .ok (.iload_n 2, 1) := by decide +kernel
theorem dX11_blowsIn_41 : decode cX11_blowsIn 41 = .ok (.ireturn, 1) := by decide +kernel
set_option maxRecDepth 20000 in
theorem ggX11_buttonsOf_X11_pointsBy : GoodIn wsX11_buttonsOf wsX11_pointsBy := goodIn_r _ [5, 6, 7, 8, 9, 10, 11, 12, 13, 4, 14, 15, 16, 17, 18, 19, 20, 21, 22, 23, 24, 25, 26, 27, 28, 29, 30, 35, 36, 37, 38, 39, 40, 41, 42, 43, 44, 45, 46, 47, 48, 49, 50, 51, 52, 53, 54, 55, 56, 57, 58] (by decide +kernel) (by decide +kernel)
set_option maxRecDepth 20000 in
theorem gX11_buttonsOf_X11_pointsBy : GoodIn wsX11_buttonsOf (wsV RX11 231 RX11 yX11_pointsBy wsX11_pointsBy) := goodIn_app (goodIn_of _ (by decide +kernel)) ggX11_buttonsOf_X11_pointsBy
set_option maxRecDepth 20000 in
theorem ggX11_buttonsOf_X11_blowsIn : GoodIn wsX11_buttonsOf wsX11_blowsIn := goodIn_r _ [34, 7, 9, 35, 36, 37, 38, 39, 40, 41, 42, 43, 44, 45, 46, 47, 48, 49, 50, 51, 52, 53, 54, 55, 56, 57, 58] (by decide +kernel) (by decide +kernel)
set_option maxRecDepth 20000 in
theorem gX11_buttonsOf_X11_blowsIn : GoodIn wsX11_buttonsOf (wsV RX11 234 RX11 yX11_blowsIn wsX11_blowsIn) := goodIn_app (goodIn_of _ (by decide +kernel)) ggX11_buttonsOf_X11_blowsIn
theorem dX11_buttonsOf_0 : decode cX11_buttonsOf 0 = .ok (.iload 4, 2) := by decide +kernel
theorem dX11_buttonsOf_2 : decode cX11_buttonsOf 2 = .ok (.iconst 1, 1) := by decide +kernel
theorem dX11_buttonsOf_3 : decode cX11_buttonsOf 3 = .ok (.if_icmp .ne 7, 3) := by decide +kernel
theorem dX11_buttonsOf_6 : decode cX11_buttonsOf 6 = .ok (.iconst 0, 1) := by decide +kernel
theorem dX11_buttonsOf_7 : decode cX11_buttonsOf 7 = .ok (.goto 11, 3) := by decide +kernel
theorem dX11_buttonsOf_10 : decode cX11_buttonsOf 10 = .ok (.aload_n 0, 1) := by decide +kernel
theorem dX11_buttonsOf_11 : decode cX11_buttonsOf 11 = .ok (.iload_n 1, 1) := by decide +kernel
theorem dX11_buttonsOf_12 : decode cX11_buttonsOf 12 = .ok (.iconst 0, 1) := by decide +kernel
theorem dX11_buttonsOf_13 : decode cX11_buttonsOf 13 = .ok (.iload_n 2, 1) := by decide +kernel
theorem dX11_buttonsOf_14 : decode cX11_buttonsOf 14 = .ok (.iload_n 3, 1) := by decide +kernel
theorem dX11_buttonsOf_15 : decode cX11_buttonsOf 15 = .ok (.invokevirtual 231, 3) := by decide +kernel
theorem dX11_buttonsOf_18 : decode cX11_buttonsOf 18 = .ok (.istore 5, 2) := by decide +kernel
theorem dX11_buttonsOf_20 : decode cX11_buttonsOf 20 = .ok (.iload 4, 2) := by decide +kernel
theorem dX11_buttonsOf_22 : decode cX11_buttonsOf 22 = .ok (.ifCond .ne 7, 3) := by decide +kernel
theorem dX11_buttonsOf_25 : decode cX11_buttonsOf 25 = .ok (.iconst 0, 1) := by decide +kernel
theorem dX11_buttonsOf_26 : decode cX11_buttonsOf 26 = .ok (.goto 11, 3) := by decide +kernel
theorem dX11_buttonsOf_29 : decode cX11_buttonsOf 29 = .ok (.aload_n 0, 1) := by decide +kernel
theorem dX11_buttonsOf_30 : decode cX11_buttonsOf 30 = .ok (.iload_n 1, 1) := by decide +kernel
theorem dX11_buttonsOf_31 : decode cX11_buttonsOf 31 = .ok (.iconst 1, 1) := by decide +kernel
theorem dX11_buttonsOf_32 : decode cX11_buttonsOf 32 = .ok (.iload_n 2, 1) := by decide +kernel
theorem dX11_buttonsOf_33 : decode cX11_buttonsOf 33 = .ok (.iload_n 3, 1) := by decide +kernel
theorem dX11_buttonsOf_34 : decode cX11_buttonsOf 34 = .ok (.invokevirtual 231, 3) := by decide +kernel
theorem dX11_buttonsOf_37 : decode cX11_buttonsOf 37 = .ok (.istore 6, 2) := by decide +kernel
theorem dX11_buttonsOf_39 : decode cX11_buttonsOf 39 = .ok (.iload 5, 2) := by decide +kernel
theorem dX11_buttonsOf_41 : decode cX11_buttonsOf 41 = .ok (.iload 6, 2) := by decide +kernel
theorem dX11_buttonsOf_43 : decode cX11_buttonsOf 43 = .ok (.iadd, 1) := by decide +kernel
theorem dX11_buttonsOf_44 : decode cX11_buttonsOf 44 = .ok (.aload_n 0, 1) := by decide +kernel
theorem dX11_buttonsOf_45 : decode cX11_buttonsOf 45 = .ok (.iload_n 1, 1) := by decide +kernel
theorem dX11_buttonsOf_46 : decode cX11_buttonsOf 46 = .ok (.invokevirtual 234, 3) := by decide +kernel
theorem dX11_buttonsOf_49 : decode cX11_buttonsOf 49 = .ok (.isub, 1) := by decide +kernel
theorem dX11_buttonsOf_50 : decode cX11_buttonsOf 50 = .ok (.istore 7, 2) := by decide +kernel
theorem dX11_buttonsOf_52 : decode cX11_buttonsOf 52 = .ok (.iload 4, 2) := by decide +kernel
theorem dX11_buttonsOf_54 : decode cX11_buttonsOf 54 = .ok (.iconst 2, 1) := by decide +kernel
theorem dX11_buttonsOf_55 : decode cX11_buttonsOf 55 = .ok (.if_icmp .ge 11, 3) := by decide +kernel
theorem dX11_buttonsOf_58 : decode cX11_buttonsOf 58 = .ok (.iload 5, 2) := by decide +kernel
theorem dX11_buttonsOf_60 : decode cX11_buttonsOf 60 = .ok (.iload 6, 2) := by decide +kernel
theorem dX11_buttonsOf_62 : decode cX11_buttonsOf 62 = .ok (.iadd, 1) := by decide +kernel
theorem dX11_buttonsOf_63 : decode cX11_buttonsOf 63 = .ok (.goto 35, 3) := by decide +kernel
theorem dX11_buttonsOf_66 : decode cX11_buttonsOf 66 = .ok (.iload 4, 2) := by decide +kernel
theorem dX11_buttonsOf_68 : decode cX11_buttonsOf 68 = .ok (.iconst 2, 1) := by decide +kernel
theorem dX11_buttonsOf_69 : decode cX11_buttonsOf 69 = .ok (.if_icmp .ne 17, 3) := by decide +kernel
theorem dX11_buttonsOf_72 : decode cX11_buttonsOf 72 = .ok (.iload 7, 2) := by decide +kernel
theorem dX11_buttonsOf_74 : decode cX11_buttonsOf 74 = .ok (.ifCond .le 8, 3) := by decide +kernel
theorem dX11_buttonsOf_77 : decode cX11_buttonsOf 77 = .ok (.iload 7, 2) := by decide +kernel
theorem dX11_buttonsOf_79 : decode cX11_buttonsOf 79 = .ok (.goto 19, 3) := by decide +kernel
theorem dX11_buttonsOf_82 : decode cX11_buttonsOf 82 = .ok (.iconst 0, 1) := by decide +kernel
theorem dX11_buttonsOf_83 : decode cX11_buttonsOf 83 = .ok (.goto 15, 3) := by decide +kernel
theorem dX11_buttonsOf_86 : decode cX11_buttonsOf 86 = .ok (.iload 7, 2) := by decide +kernel
theorem dX11_buttonsOf_88 : decode cX11_buttonsOf 88 = .ok (.ifCond .ge 9, 3) := by decide +kernel
theorem dX11_buttonsOf_91 : decode cX11_buttonsOf 91 = .ok (.iload 7, 2) := by decide +kernel
theorem dX11_buttonsOf_93 : decode cX11_buttonsOf 93 = .ok (.ineg, 1) := by decide +kernel
theorem dX11_buttonsOf_94 : decode cX11_buttonsOf 94 = .ok (.goto 4, 3) := by decide +kernel
theorem dX11_buttonsOf_97 : decode cX11_buttonsOf 97 = .ok (.iconst 0, 1) := by decide +kernel
theorem dX11_buttonsOf_98 : decode cX11_buttonsOf 98 = .ok (.ireturn, 1) := by decide +kernel
set_option maxRecDepth 20000 in
theorem ggX11_buttons_X11_isRound : GoodIn wsX11_buttons wsX11_isRound := goodIn_r _ [9, 4, 10, 11, 8, 12, 50, 51, 52, 53, 54, 55, 56, 57, 58, 59, 60, 61, 62, 63, 64, 65, 66, 67, 68, 69, 70, 71, 72, 73] (by decide +kernel) (by decide +kernel)
set_option maxRecDepth 20000 in
theorem gX11_buttons_X11_isRound : GoodIn wsX11_buttons (wsV RX11 152 RX11 yX11_isRound wsX11_isRound) := goodIn_app (goodIn_of _ (by decide +kernel)) ggX11_buttons_X11_isRound
set_option maxRecDepth 20000 in
theorem ggX11_buttons_X11_in : GoodIn wsX11_buttons wsX11_in := goodIn_r _ [12] (by decide +kernel) (by decide +kernel)
set_option maxRecDepth 20000 in
theorem gX11_buttons_X11_in : GoodIn wsX11_buttons (va_wsS RX11 80 yX11_in wsX11_in) := goodIn_app (goodIn_of _ (by decide +kernel)) ggX11_buttons_X11_in
set_option maxRecDepth 20000 in
theorem ggX11_buttons_X11_buttonsOf : GoodIn wsX11_buttons wsX11_buttonsOf := goodIn_r _ [16, 17, 18, 19, 8, 20, 21, 22, 23, 24, 25, 26, 27, 28, 29, 30, 31, 32, 33, 34, 35, 36, 37, 38, 39, 40, 41, 42, 43, 44, 45, 46, 47, 48, 49, 50, 51, 52, 53, 54, 55, 56, 57, 58, 59, 60, 61, 62, 63, 64, 65, 66, 67, 68, 69, 70, 71, 72, 73] (by decide +kernel) (by decide +kernel)
set_option maxRecDepth 20000 in
theorem gX11_buttons_X11_buttonsOf : GoodIn wsX11_buttons (wsV RX11 237 RX11 yX11_buttonsOf wsX11_buttonsOf) := goodIn_app (goodIn_of _ (by decide +kernel)) ggX11_buttons_X11_buttonsOf
theorem dX11_buttons_0 : decode cX11_buttons 0 = .ok (.iload_n 1, 1) := by decide +kernel
theorem dX11_buttons_1 : decode cX11_buttons 1 = .ok (.iconst (-1), 1) := by decide +kernel
theorem dX11_buttons_2 : decode cX11_buttons 2 = .ok (.if_icmp .eq 11, 3) := by decide +kernel
theorem dX11_buttons_5 : decode cX11_buttons 5 = .ok (.aload_n 0, 1) := by decide +kernel
theorem dX11_buttons_6 : decode cX11_buttons 6 = .ok (.iload_n 1, 1) := by decide +kernel
theorem dX11_buttons_7 : decode cX11_buttons 7 = .ok (.invokevirtual 152, 3) := by decide +kernel
theorem dX11_buttons_10 : decode cX11_buttons 10 = .ok (.ifCond .eq 40, 3) := by decide +kernel
theorem dX11_buttons_13 : decode cX11_buttons 13 = .ok (.iload_n 2, 1) := by decide +kernel
theorem dX11_buttons_14 : decode cX11_buttons 14 = .ok (.i2l, 1) := by decide +kernel
theorem dX11_buttons_15 : decode cX11_buttons 15 = .ok (.lconst 1, 1) := by decide +kernel
theorem dX11_buttons_16 : decode cX11_buttons 16 = .ok (.ldc2_w 78, 3) := by decide +kernel
theorem dX11_buttons_19 : decode cX11_buttons 19 = .ok (.invokestatic 80, 3) := by decide +kernel
theorem dX11_buttons_22 : decode cX11_buttons 22 = .ok (.ifCond .eq 28, 3) := by decide +kernel
theorem dX11_buttons_25 : decode cX11_buttons 25 = .ok (.iload_n 3, 1) := by decide +kernel
theorem dX11_buttons_26 : decode cX11_buttons 26 = .ok (.i2l, 1) := by decide +kernel
theorem dX11_buttons_27 : decode cX11_buttons 27 = .ok (.lconst 0, 1) := by decide +kernel
theorem dX11_buttons_28 : decode cX11_buttons 28 = .ok (.ldc2_w 107, 3) := by decide +kernel
theorem dX11_buttons_31 : decode cX11_buttons 31 = .ok (.invokestatic 80, 3) := by decide +kernel
theorem dX11_buttons_34 : decode cX11_buttons 34 = .ok (.ifCond .eq 16, 3) := by decide +kernel
theorem dX11_buttons_37 : decode cX11_buttons 37 = .ok (.iload 4, 2) := by decide +kernel
theorem dX11_buttons_39 : decode cX11_buttons 39 = .ok (.i2l, 1) := by decide +kernel
theorem dX11_buttons_40 : decode cX11_buttons 40 = .ok (.lconst 0, 1) := by decide +kernel
theorem dX11_buttons_41 : decode cX11_buttons 41 = .ok (.ldc2_w 101, 3) := by decide +kernel
theorem dX11_buttons_44 : decode cX11_buttons 44 = .ok (.invokestatic 80, 3) := by decide +kernel
theorem dX11_buttons_47 : decode cX11_buttons 47 = .ok (.ifCond .ne 5, 3) := by decide +kernel
theorem dX11_buttons_50 : decode cX11_buttons 50 = .ok (.iconst (-1), 1) := by decide +kernel
theorem dX11_buttons_51 : decode cX11_buttons 51 = .ok (.ireturn, 1) := by decide +kernel
theorem dX11_buttons_52 : decode cX11_buttons 52 = .ok (.iload_n 1, 1) := by decide +kernel
theorem dX11_buttons_53 : decode cX11_buttons 53 = .ok (.ifCond .lt 13, 3) := by decide +kernel
theorem dX11_buttons_56 : decode cX11_buttons 56 = .ok (.aload_n 0, 1) := by decide +kernel
theorem dX11_buttons_57 : decode cX11_buttons 57 = .ok (.iload_n 1, 1) := by decide +kernel
theorem dX11_buttons_58 : decode cX11_buttons 58 = .ok (.iload_n 2, 1) := by decide +kernel
theorem dX11_buttons_59 : decode cX11_buttons 59 = .ok (.iload_n 3, 1) := by decide +kernel
theorem dX11_buttons_60 : decode cX11_buttons 60 = .ok (.iload 4, 2) := by decide +kernel
theorem dX11_buttons_62 : decode cX11_buttons 62 = .ok (.invokevirtual 237, 3) := by decide +kernel
theorem dX11_buttons_65 : decode cX11_buttons 65 = .ok (.ireturn, 1) := by decide +kernel
theorem dX11_buttons_66 : decode cX11_buttons 66 = .ok (.iconst 0, 1) := by decide +kernel
theorem dX11_buttons_67 : decode cX11_buttons 67 = .ok (.istore 5, 2) := by decide +kernel
theorem dX11_buttons_69 : decode cX11_buttons 69 = .ok (.iconst 0, 1) := by decide +kernel
theorem dX11_buttons_70 : decode cX11_buttons 70 = .ok (.istore 6, 2) := by decide +kernel
theorem dX11_buttons_72 : decode cX11_buttons 72 = .ok (.iload 6, 2) := by decide +kernel
theorem dX11_buttons_74 : decode cX11_buttons 74 = .ok (.aload_n 0, 1) := by decide +kernel
theorem dX11_buttons_75 : decode cX11_buttons 75 = .ok (.getfield 13, 3) := by decide +kernel
theorem dX11_buttons_78 : decode cX11_buttons 78 = .ok (.iconst 0, 1) := by decide +kernel
theorem dX11_buttons_79 : decode cX11_buttons 79 = .ok (.iaload, 1) := by decide +kernel
theorem dX11_buttons_80 : decode cX11_buttons 80 = .ok (.if_icmp .ge 24, 3) := by decide +kernel
theorem dX11_buttons_83 : decode cX11_buttons 83 = .ok (.iload 5, 2) := by decide +kernel
theorem dX11_buttons_85 : decode cX11_buttons 85 = .ok (.aload_n 0, 1) := by decide +kernel
theorem dX11_buttons_86 : decode cX11_buttons 86 = .ok (.iload 6, 2) := by decide +kernel
theorem dX11_buttons_88 : decode cX11_buttons 88 = .ok (.iload_n 2, 1) := by decide +kernel
theorem dX11_buttons_89 : decode cX11_buttons 89 = .ok (.iload_n 3, 1) := by decide +kernel
theorem dX11_buttons_90 : decode cX11_buttons 90 = .ok (.iload 4, 2) := by decide +kernel
theorem dX11_buttons_92 : decode cX11_buttons 92 = .ok (.invokevirtual 237, 3) := by decide +kernel
theorem dX11_buttons_95 : decode cX11_buttons 95 = .ok (.iadd, 1) := by decide +kernel
theorem dX11_buttons_96 : decode cX11_buttons 96 = .ok (.istore 5, 2) := by decide +kernel
theorem dX11_buttons_98 : decode cX11_buttons 98 = .ok (.iinc 6 1, 3) := by decide +kernel
theorem dX11_buttons_101 : decode cX11_buttons 101 = .ok (.goto (-29), 3) := by decide +kernel
theorem dX11_buttons_104 : decode cX11_buttons 104 = .ok (.iload 5, 2) := by decide +kernel
theorem dX11_buttons_106 : decode cX11_buttons 106 = .ok (.ireturn, 1) := by decide +kernel
set_option maxRecDepth 20000 in
theorem ggX11_isName_X11_in : GoodIn wsX11_isName wsX11_in := goodIn_r _ [5] (by decide +kernel) (by decide +kernel)
set_option maxRecDepth 20000 in
theorem gX11_isName_X11_in : GoodIn wsX11_isName (va_wsS RX11 80 yX11_in wsX11_in) := goodIn_app (goodIn_of _ (by decide +kernel)) ggX11_isName_X11_in
theorem dX11_isName_0 : decode cX11_isName 0 = .ok (.iload_n 0, 1) := by decide +kernel
theorem dX11_isName_1 : decode cX11_isName 1 = .ok (.i2l, 1) := by decide +kernel
theorem dX11_isName_2 : decode cX11_isName 2 = .ok (.lconst 0, 1) := by decide +kernel
theorem dX11_isName_3 : decode cX11_isName 3 = .ok (.ldc2_w 136, 3) := by decide +kernel
theorem dX11_isName_6 : decode cX11_isName 6 = .ok (.invokestatic 80, 3) := by decide +kernel
theorem dX11_isName_9 : decode cX11_isName 9 = .ok (.ireturn, 1) := by decide +kernel
theorem dX11_toldOf_0 : decode cX11_toldOf 0 = .ok (.aload_n 0, 1) := by decide +kernel
theorem dX11_toldOf_1 : decode cX11_toldOf 1 = .ok (.getfield 46, 3) := by decide +kernel
theorem dX11_toldOf_4 : decode cX11_toldOf 4 = .ok (.bipush 24, 2) := by decide +kernel
theorem dX11_toldOf_6 : decode cX11_toldOf 6 = .ok (.iload_n 1, 1) := by decide +kernel
theorem dX11_toldOf_7 : decode cX11_toldOf 7 = .ok (.imul, 1) := by decide +kernel
theorem dX11_toldOf_8 : decode cX11_toldOf 8 = .ok (.iload_n 2, 1) := by decide +kernel
theorem dX11_toldOf_9 : decode cX11_toldOf 9 = .ok (.iadd, 1) := by decide +kernel
theorem dX11_toldOf_10 : decode cX11_toldOf 10 = .ok (.iaload, 1) := by decide +kernel
theorem dX11_toldOf_11 : decode cX11_toldOf 11 = .ok (.ireturn, 1) := by decide +kernel
set_option maxRecDepth 20000 in
theorem ggX11_tell_X11_isName : GoodIn wsX11_tell wsX11_isName := goodIn_r _ [8, 9, 10, 11, 7, 12] (by decide +kernel) (by decide +kernel)
set_option maxRecDepth 20000 in
theorem gX11_tell_X11_isName : GoodIn wsX11_tell (va_wsS RX11 240 yX11_isName wsX11_isName) := goodIn_app (goodIn_of _ (by decide +kernel)) ggX11_tell_X11_isName
set_option maxRecDepth 20000 in
theorem ggX11_tell_X11_in : GoodIn wsX11_tell wsX11_in := goodIn_r _ [12] (by decide +kernel) (by decide +kernel)
set_option maxRecDepth 20000 in
theorem gX11_tell_X11_in : GoodIn wsX11_tell (va_wsS RX11 80 yX11_in wsX11_in) := goodIn_app (goodIn_of _ (by decide +kernel)) ggX11_tell_X11_in
set_option maxRecDepth 20000 in
theorem ggX11_tell_X11_toldOf : GoodIn wsX11_tell wsX11_toldOf := goodIn_r _ [16, 4, 17, 18, 19, 20, 21, 22, 23, 24, 25, 26, 27, 28, 29, 30, 31, 32, 33, 34, 35, 36, 37, 38, 39, 40] (by decide +kernel) (by decide +kernel)
set_option maxRecDepth 20000 in
theorem gX11_tell_X11_toldOf : GoodIn wsX11_tell (wsV RX11 249 RX11 yX11_toldOf wsX11_toldOf) := goodIn_app (goodIn_of _ (by decide +kernel)) ggX11_tell_X11_toldOf
theorem dX11_tell_0 : decode cX11_tell 0 = .ok (.iload_n 1, 1) := by decide +kernel
theorem dX11_tell_1 : decode cX11_tell 1 = .ok (.invokestatic 240, 3) := by decide +kernel
theorem dX11_tell_4 : decode cX11_tell 4 = .ok (.ifCond .eq 29, 3) := by decide +kernel
theorem dX11_tell_7 : decode cX11_tell 7 = .ok (.iload_n 2, 1) := by decide +kernel
theorem dX11_tell_8 : decode cX11_tell 8 = .ok (.i2l, 1) := by decide +kernel
theorem dX11_tell_9 : decode cX11_tell 9 = .ok (.lconst 0, 1) := by decide +kernel
theorem dX11_tell_10 : decode cX11_tell 10 = .ok (.ldc2_w 243, 3) := by decide +kernel
theorem dX11_tell_13 : decode cX11_tell 13 = .ok (.invokestatic 80, 3) := by decide +kernel
theorem dX11_tell_16 : decode cX11_tell 16 = .ok (.ifCond .eq 17, 3) := by decide +kernel
theorem dX11_tell_19 : decode cX11_tell 19 = .ok (.iload_n 3, 1) := by decide +kernel
theorem dX11_tell_20 : decode cX11_tell 20 = .ok (.i2l, 1) := by decide +kernel
theorem dX11_tell_21 : decode cX11_tell 21 = .ok (.ldc2_w 245, 3) := by decide +kernel
theorem dX11_tell_24 : decode cX11_tell 24 = .ok (.ldc2_w 247, 3) := by decide +kernel
theorem dX11_tell_27 : decode cX11_tell 27 = .ok (.invokestatic 80, 3) := by decide +kernel
theorem dX11_tell_30 : decode cX11_tell 30 = .ok (.ifCond .ne 6, 3) := by decide +kernel
theorem dX11_tell_33 : decode cX11_tell 33 = .ok (.bipush (-22), 2) := by decide +kernel
theorem dX11_tell_35 : decode cX11_tell 35 = .ok (.ireturn, 1) := by decide +kernel
theorem dX11_tell_36 : decode cX11_tell 36 = .ok (.aload_n 0, 1) := by decide +kernel
theorem dX11_tell_37 : decode cX11_tell 37 = .ok (.iload_n 1, 1) := by decide +kernel
theorem dX11_tell_38 : decode cX11_tell 38 = .ok (.iload_n 2, 1) := by decide +kernel
theorem dX11_tell_39 : decode cX11_tell 39 = .ok (.invokevirtual 249, 3) := by decide +kernel
theorem dX11_tell_42 : decode cX11_tell 42 = .ok (.istore 4, 2) := by decide +kernel
theorem dX11_tell_44 : decode cX11_tell 44 = .ok (.aload_n 0, 1) := by decide +kernel
theorem dX11_tell_45 : decode cX11_tell 45 = .ok (.getfield 46, 3) := by decide +kernel
theorem dX11_tell_48 : decode cX11_tell 48 = .ok (.bipush 24, 2) := by decide +kernel
theorem dX11_tell_50 : decode cX11_tell 50 = .ok (.iload_n 1, 1) := by decide +kernel
theorem dX11_tell_51 : decode cX11_tell 51 = .ok (.imul, 1) := by decide +kernel
theorem dX11_tell_52 : decode cX11_tell 52 = .ok (.iload_n 2, 1) := by decide +kernel
theorem dX11_tell_53 : decode cX11_tell 53 = .ok (.iadd, 1) := by decide +kernel
theorem dX11_tell_54 : decode cX11_tell 54 = .ok (.iload_n 3, 1) := by decide +kernel
theorem dX11_tell_55 : decode cX11_tell 55 = .ok (.iastore, 1) := by decide +kernel
theorem dX11_tell_56 : decode cX11_tell 56 = .ok (.iload 4, 2) := by decide +kernel
theorem dX11_tell_58 : decode cX11_tell 58 = .ok (.ireturn, 1) := by decide +kernel
set_option maxRecDepth 20000 in
theorem ggX11_signsOf_X11_toldOf : GoodIn wsX11_signsOf wsX11_toldOf := goodIn_r _ [5, 6, 10, 11, 12, 13, 14, 15, 16, 17, 18, 19, 20, 21, 22, 23, 24, 25, 26, 27, 28, 29, 30, 31, 32, 33] (by decide +kernel) (by decide +kernel)
set_option maxRecDepth 20000 in
theorem gX11_signsOf_X11_toldOf : GoodIn wsX11_signsOf (wsV RX11 249 RX11 yX11_toldOf wsX11_toldOf) := goodIn_app (goodIn_of _ (by decide +kernel)) ggX11_signsOf_X11_toldOf
set_option maxRecDepth 20000 in
theorem ggX11_signsOf_X11_sign : GoodIn wsX11_signsOf wsX11_sign := goodIn_r _ [9] (by decide +kernel) (by decide +kernel)
set_option maxRecDepth 20000 in
theorem gX11_signsOf_X11_sign : GoodIn wsX11_signsOf (va_wsS RX11 189 yX11_sign wsX11_sign) := goodIn_app (goodIn_of _ (by decide +kernel)) ggX11_signsOf_X11_sign
theorem dX11_signsOf_0 : decode cX11_signsOf 0 = .ok (.iconst 0, 1) := by decide +kernel
theorem dX11_signsOf_1 : decode cX11_signsOf 1 = .ok (.istore 4, 2) := by decide +kernel
theorem dX11_signsOf_3 : decode cX11_signsOf 3 = .ok (.iconst 0, 1) := by decide +kernel
theorem dX11_signsOf_4 : decode cX11_signsOf 4 = .ok (.istore 5, 2) := by decide +kernel
theorem dX11_signsOf_6 : decode cX11_signsOf 6 = .ok (.iload 5, 2) := by decide +kernel
theorem dX11_signsOf_8 : decode cX11_signsOf 8 = .ok (.bipush 24, 2) := by decide +kernel
theorem dX11_signsOf_10 : decode cX11_signsOf 10 = .ok (.if_icmp .ge 69, 3) := by decide +kernel
theorem dX11_signsOf_13 : decode cX11_signsOf 13 = .ok (.aload_n 0, 1) := by decide +kernel
theorem dX11_signsOf_14 : decode cX11_signsOf 14 = .ok (.iload_n 1, 1) := by decide +kernel
theorem dX11_signsOf_15 : decode cX11_signsOf 15 = .ok (.iload 5, 2) := by decide +kernel
theorem dX11_signsOf_17 : decode cX11_signsOf 17 = .ok (.invokevirtual 249, 3) := by decide +kernel
theorem dX11_signsOf_20 : decode cX11_signsOf 20 = .ok (.bipush (-21), 2) := by decide +kernel
theorem dX11_signsOf_22 : decode cX11_signsOf 22 = .ok (.if_icmp .le 19, 3) := by decide +kernel
theorem dX11_signsOf_25 : decode cX11_signsOf 25 = .ok (.aload_n 0, 1) := by decide +kernel
theorem dX11_signsOf_26 : decode cX11_signsOf 26 = .ok (.iload_n 2, 1) := by decide +kernel
theorem dX11_signsOf_27 : decode cX11_signsOf 27 = .ok (.iload 5, 2) := by decide +kernel
theorem dX11_signsOf_29 : decode cX11_signsOf 29 = .ok (.invokevirtual 249, 3) := by decide +kernel
theorem dX11_signsOf_32 : decode cX11_signsOf 32 = .ok (.bipush (-21), 2) := by decide +kernel
theorem dX11_signsOf_34 : decode cX11_signsOf 34 = .ok (.if_icmp .le 7, 3) := by decide +kernel
theorem dX11_signsOf_37 : decode cX11_signsOf 37 = .ok (.iconst 1, 1) := by decide +kernel
theorem dX11_signsOf_38 : decode cX11_signsOf 38 = .ok (.goto 4, 3) := by decide +kernel
theorem dX11_signsOf_41 : decode cX11_signsOf 41 = .ok (.iconst 0, 1) := by decide +kernel
theorem dX11_signsOf_42 : decode cX11_signsOf 42 = .ok (.istore 6, 2) := by decide +kernel
theorem dX11_signsOf_44 : decode cX11_signsOf 44 = .ok (.iload 4, 2) := by decide +kernel
theorem dX11_signsOf_46 : decode cX11_signsOf 46 = .ok (.iload 6, 2) := by decide +kernel
theorem dX11_signsOf_48 : decode cX11_signsOf 48 = .ok (.ifCond .eq 21, 3) := by decide +kernel
theorem dX11_signsOf_51 : decode cX11_signsOf 51 = .ok (.aload_n 0, 1) := by decide +kernel
theorem dX11_signsOf_52 : decode cX11_signsOf 52 = .ok (.iload_n 1, 1) := by decide +kernel
theorem dX11_signsOf_53 : decode cX11_signsOf 53 = .ok (.iload 5, 2) := by decide +kernel
theorem dX11_signsOf_55 : decode cX11_signsOf 55 = .ok (.invokevirtual 249, 3) := by decide +kernel
theorem dX11_signsOf_58 : decode cX11_signsOf 58 = .ok (.invokestatic 189, 3) := by decide +kernel
theorem dX11_signsOf_61 : decode cX11_signsOf 61 = .ok (.iload_n 3, 1) := by decide +kernel
theorem dX11_signsOf_62 : decode cX11_signsOf 62 = .ok (.if_icmp .ne 7, 3) := by decide +kernel
theorem dX11_signsOf_65 : decode cX11_signsOf 65 = .ok (.iconst 1, 1) := by decide +kernel
theorem dX11_signsOf_66 : decode cX11_signsOf 66 = .ok (.goto 4, 3) := by decide +kernel
theorem dX11_signsOf_69 : decode cX11_signsOf 69 = .ok (.iconst 0, 1) := by decide +kernel
theorem dX11_signsOf_70 : decode cX11_signsOf 70 = .ok (.iadd, 1) := by decide +kernel
theorem dX11_signsOf_71 : decode cX11_signsOf 71 = .ok (.istore 4, 2) := by decide +kernel
theorem dX11_signsOf_73 : decode cX11_signsOf 73 = .ok (.iinc 5 1, 3) := by decide +kernel
theorem dX11_signsOf_76 : decode cX11_signsOf 76 = .ok (.goto (-70), 3) := by decide +kernel
theorem dX11_signsOf_79 : decode cX11_signsOf 79 = .ok (.iload 4, 2) := by decide +kernel
theorem dX11_signsOf_81 : decode cX11_signsOf 81 = .ok (.ireturn, 1) := by decide +kernel
set_option maxRecDepth 20000 in
theorem ggX11_same_X11_isName : GoodIn wsX11_same wsX11_isName := goodIn_r _ [5, 6, 7, 8, 4, 9] (by decide +kernel) (by decide +kernel)
set_option maxRecDepth 20000 in
theorem gX11_same_X11_isName : GoodIn wsX11_same (va_wsS RX11 240 yX11_isName wsX11_isName) := goodIn_app (goodIn_of _ (by decide +kernel)) ggX11_same_X11_isName
set_option maxRecDepth 20000 in
theorem ggX11_same_X11_in : GoodIn wsX11_same wsX11_in := goodIn_r _ [9] (by decide +kernel) (by decide +kernel)
set_option maxRecDepth 20000 in
theorem gX11_same_X11_in : GoodIn wsX11_same (va_wsS RX11 80 yX11_in wsX11_in) := goodIn_app (goodIn_of _ (by decide +kernel)) ggX11_same_X11_in
set_option maxRecDepth 20000 in
theorem ggX11_same_X11_toldOf : GoodIn wsX11_same wsX11_toldOf := goodIn_r _ [13, 14, 22, 23, 24, 25, 26, 27, 28, 29, 30, 31, 32, 33, 34, 35, 36, 37, 38, 39, 40, 41, 42, 43, 44, 45] (by decide +kernel) (by decide +kernel)
set_option maxRecDepth 20000 in
theorem gX11_same_X11_toldOf : GoodIn wsX11_same (wsV RX11 249 RX11 yX11_toldOf wsX11_toldOf) := goodIn_app (goodIn_of _ (by decide +kernel)) ggX11_same_X11_toldOf
set_option maxRecDepth 20000 in
theorem ggX11_same_X11_sign : GoodIn wsX11_same wsX11_sign := goodIn_r _ [17] (by decide +kernel) (by decide +kernel)
set_option maxRecDepth 20000 in
theorem gX11_same_X11_sign : GoodIn wsX11_same (va_wsS RX11 189 yX11_sign wsX11_sign) := goodIn_app (goodIn_of _ (by decide +kernel)) ggX11_same_X11_sign
set_option maxRecDepth 20000 in
theorem ggX11_same_X11_signsOf : GoodIn wsX11_same wsX11_signsOf := goodIn_r _ [21, 10, 11, 12, 4, 13, 14, 15, 16, 17, 22, 23, 24, 25, 26, 27, 28, 29, 30, 31, 32, 33, 34, 35, 36, 37, 38, 39, 40, 41, 42, 43, 44, 45] (by decide +kernel) (by decide +kernel)
set_option maxRecDepth 20000 in
theorem gX11_same_X11_signsOf : GoodIn wsX11_same (wsV RX11 252 RX11 yX11_signsOf wsX11_signsOf) := goodIn_app (goodIn_of _ (by decide +kernel)) ggX11_same_X11_signsOf
theorem dX11_same_0 : decode cX11_same 0 = .ok (.iload_n 1, 1) := by decide +kernel
theorem dX11_same_1 : decode cX11_same 1 = .ok (.invokestatic 240, 3) := by decide +kernel
theorem dX11_same_4 : decode cX11_same 4 = .ok (.ifCond .eq 27, 3) := by decide +kernel
theorem dX11_same_7 : decode cX11_same 7 = .ok (.iload_n 2, 1) := by decide +kernel
theorem dX11_same_8 : decode cX11_same 8 = .ok (.invokestatic 240, 3) := by decide +kernel
theorem dX11_same_11 : decode cX11_same 11 = .ok (.ifCond .eq 20, 3) := by decide +kernel
theorem dX11_same_14 : decode cX11_same 14 = .ok (.iload_n 1, 1) := by decide +kernel
theorem dX11_same_15 : decode cX11_same 15 = .ok (.iload_n 2, 1) := by decide +kernel
theorem dX11_same_16 : decode cX11_same 16 = .ok (.if_icmp .eq 15, 3) := by decide +kernel
theorem dX11_same_19 : decode cX11_same 19 = .ok (.iload_n 3, 1) := by decide +kernel
theorem dX11_same_20 : decode cX11_same 20 = .ok (.i2l, 1) := by decide +kernel
theorem dX11_same_21 : decode cX11_same 21 = .ok (.lconst 0, 1) := by decide +kernel
theorem dX11_same_22 : decode cX11_same 22 = .ok (.ldc2_w 181, 3) := by decide +kernel
theorem dX11_same_25 : decode cX11_same 25 = .ok (.invokestatic 80, 3) := by decide +kernel
theorem dX11_same_28 : decode cX11_same 28 = .ok (.ifCond .ne 5, 3) := by decide +kernel
theorem dX11_same_31 : decode cX11_same 31 = .ok (.iconst (-1), 1) := by decide +kernel
theorem dX11_same_32 : decode cX11_same 32 = .ok (.ireturn, 1) := by decide +kernel
theorem dX11_same_33 : decode cX11_same 33 = .ok (.iconst 0, 1) := by decide +kernel
theorem dX11_same_34 : decode cX11_same 34 = .ok (.istore 4, 2) := by decide +kernel
theorem dX11_same_36 : decode cX11_same 36 = .ok (.iconst 0, 1) := by decide +kernel
theorem dX11_same_37 : decode cX11_same 37 = .ok (.istore 5, 2) := by decide +kernel
theorem dX11_same_39 : decode cX11_same 39 = .ok (.iconst 0, 1) := by decide +kernel
theorem dX11_same_40 : decode cX11_same 40 = .ok (.istore 6, 2) := by decide +kernel
theorem dX11_same_42 : decode cX11_same 42 = .ok (.iload 6, 2) := by decide +kernel
theorem dX11_same_44 : decode cX11_same 44 = .ok (.bipush 24, 2) := by decide +kernel
theorem dX11_same_46 : decode cX11_same 46 = .ok (.if_icmp .ge 93, 3) := by decide +kernel
theorem dX11_same_49 : decode cX11_same 49 = .ok (.aload_n 0, 1) := by decide +kernel
theorem dX11_same_50 : decode cX11_same 50 = .ok (.iload_n 1, 1) := by decide +kernel
theorem dX11_same_51 : decode cX11_same 51 = .ok (.iload 6, 2) := by decide +kernel
theorem dX11_same_53 : decode cX11_same 53 = .ok (.invokevirtual 249, 3) := by decide +kernel
theorem dX11_same_56 : decode cX11_same 56 = .ok (.bipush (-21), 2) := by decide +kernel
theorem dX11_same_58 : decode cX11_same 58 = .ok (.if_icmp .le 19, 3) := by decide +kernel
theorem dX11_same_61 : decode cX11_same 61 = .ok (.aload_n 0, 1) := by decide +kernel
theorem dX11_same_62 : decode cX11_same 62 = .ok (.iload_n 2, 1) := by decide +kernel
theorem dX11_same_63 : decode cX11_same 63 = .ok (.iload 6, 2) := by decide +kernel
theorem dX11_same_65 : decode cX11_same 65 = .ok (.invokevirtual 249, 3) := by decide +kernel
theorem dX11_same_68 : decode cX11_same 68 = .ok (.bipush (-21), 2) := by decide +kernel
theorem dX11_same_70 : decode cX11_same 70 = .ok (.if_icmp .le 7, 3) := by decide +kernel
theorem dX11_same_73 : decode cX11_same 73 = .ok (.iconst 1, 1) := by decide +kernel
theorem dX11_same_74 : decode cX11_same 74 = .ok (.goto 4, 3) := by decide +kernel
theorem dX11_same_77 : decode cX11_same 77 = .ok (.iconst 0, 1) := by decide +kernel
theorem dX11_same_78 : decode cX11_same 78 = .ok (.istore 7, 2) := by decide +kernel
theorem dX11_same_80 : decode cX11_same 80 = .ok (.iload 4, 2) := by decide +kernel
theorem dX11_same_82 : decode cX11_same 82 = .ok (.iload 7, 2) := by decide +kernel
theorem dX11_same_84 : decode cX11_same 84 = .ok (.ifCond .eq 7, 3) := by decide +kernel
theorem dX11_same_87 : decode cX11_same 87 = .ok (.iconst 1, 1) := by decide +kernel
theorem dX11_same_88 : decode cX11_same 88 = .ok (.goto 4, 3) := by decide +kernel
theorem dX11_same_91 : decode cX11_same 91 = .ok (.iconst 0, 1) := by decide +kernel
theorem dX11_same_92 : decode cX11_same 92 = .ok (.iadd, 1) := by decide +kernel
theorem dX11_same_93 : decode cX11_same 93 = .ok (.istore 4, 2) := by decide +kernel
theorem dX11_same_95 : decode cX11_same 95 = .ok (.iload 5, 2) := by decide +kernel
theorem dX11_same_97 : decode cX11_same 97 = .ok (.iload 7, 2) := by decide +kernel
theorem dX11_same_99 : decode cX11_same 99 = .ok (.ifCond .eq 30, 3) := by decide +kernel
theorem dX11_same_102 : decode cX11_same 102 = .ok (.aload_n 0, 1) := by decide +kernel
theorem dX11_same_103 : decode cX11_same 103 = .ok (.iload_n 1, 1) := by decide +kernel
theorem dX11_same_104 : decode cX11_same 104 = .ok (.iload 6, 2) := by decide +kernel
theorem dX11_same_106 : decode cX11_same 106 = .ok (.invokevirtual 249, 3) := by decide +kernel
theorem dX11_same_109 : decode cX11_same 109 = .ok (.invokestatic 189, 3) := by decide +kernel
theorem dX11_same_112 : decode cX11_same 112 = .ok (.aload_n 0, 1) := by decide +kernel
theorem dX11_same_113 : decode cX11_same 113 = .ok (.iload_n 2, 1) := by decide +kernel
theorem dX11_same_114 : decode cX11_same 114 = .ok (.iload 6, 2) := by decide +kernel
theorem dX11_same_116 : decode cX11_same 116 = .ok (.invokevirtual 249, 3) := by decide +kernel
theorem dX11_same_119 : decode cX11_same 119 = .ok (.invokestatic 189, 3) := by decide +kernel
theorem dX11_same_122 : decode cX11_same 122 = .ok (.if_icmp .ne 7, 3) := by decide +kernel
theorem dX11_same_125 : decode cX11_same 125 = .ok (.iconst 1, 1) := by decide +kernel
theorem dX11_same_126 : decode cX11_same 126 = .ok (.goto 4, 3) := by decide +kernel
theorem dX11_same_129 : decode cX11_same 129 = .ok (.iconst 0, 1) := by decide +kernel
theorem dX11_same_130 : decode cX11_same 130 = .ok (.iadd, 1) := by decide +kernel
theorem dX11_same_131 : decode cX11_same 131 = .ok (.istore 5, 2) := by decide +kernel
theorem dX11_same_133 : decode cX11_same 133 = .ok (.iinc 6 1, 3) := by decide +kernel
theorem dX11_same_136 : decode cX11_same 136 = .ok (.goto (-94), 3) := by decide +kernel
theorem dX11_same_139 : decode cX11_same 139 = .ok (.iload_n 3, 1) := by decide +kernel
theorem dX11_same_140 : decode cX11_same 140 = .ok (.iconst 2, 1) := by decide +kernel
theorem dX11_same_141 : decode cX11_same 141 = .ok (.if_icmp .ge 15, 3) := by decide +kernel
theorem dX11_same_144 : decode cX11_same 144 = .ok (.iload_n 3, 1) := by decide +kernel
theorem dX11_same_145 : decode cX11_same 145 = .ok (.ifCond .ne 8, 3) := by decide +kernel
theorem dX11_same_148 : decode cX11_same 148 = .ok (.iload 5, 2) := by decide +kernel
theorem dX11_same_150 : decode cX11_same 150 = .ok (.goto 5, 3) := by decide +kernel
theorem dX11_same_153 : decode cX11_same 153 = .ok (.iload 4, 2) := by decide +kernel
theorem dX11_same_155 : decode cX11_same 155 = .ok (.ireturn, 1) := by decide +kernel
theorem dX11_same_156 : decode cX11_same 156 = .ok (.iconst 0, 1) := by decide +kernel
theorem dX11_same_157 : decode cX11_same 157 = .ok (.istore 6, 2) := by decide +kernel
theorem dX11_same_159 : decode cX11_same 159 = .ok (.iconst (-1), 1) := by decide +kernel
theorem dX11_same_160 : decode cX11_same 160 = .ok (.istore 7, 2) := by decide +kernel
theorem dX11_same_162 : decode cX11_same 162 = .ok (.iload 7, 2) := by decide +kernel
theorem dX11_same_164 : decode cX11_same 164 = .ok (.iconst 2, 1) := by decide +kernel
theorem dX11_same_165 : decode cX11_same 165 = .ok (.if_icmp .ge 31, 3) := by decide +kernel
theorem dX11_same_168 : decode cX11_same 168 = .ok (.iload 6, 2) := by decide +kernel
theorem dX11_same_170 : decode cX11_same 170 = .ok (.aload_n 0, 1) := by decide +kernel
theorem dX11_same_171 : decode cX11_same 171 = .ok (.iload_n 1, 1) := by decide +kernel
theorem dX11_same_172 : decode cX11_same 172 = .ok (.iload_n 2, 1) := by decide +kernel
theorem dX11_same_173 : decode cX11_same 173 = .ok (.iload 7, 2) := by decide +kernel
theorem dX11_same_175 : decode cX11_same 175 = .ok (.invokevirtual 252, 3) := by decide +kernel
theorem dX11_same_178 : decode cX11_same 178 = .ok (.aload_n 0, 1) := by decide +kernel
theorem dX11_same_179 : decode cX11_same 179 = .ok (.iload_n 2, 1) := by decide +kernel
theorem dX11_same_180 : decode cX11_same 180 = .ok (.iload_n 1, 1) := by decide +kernel
theorem dX11_same_181 : decode cX11_same 181 = .ok (.iload 7, 2) := by decide +kernel
theorem dX11_same_183 : decode cX11_same 183 = .ok (.invokevirtual 252, 3) := by decide +kernel
theorem dX11_same_186 : decode cX11_same 186 = .ok (.imul, 1) := by decide +kernel
theorem dX11_same_187 : decode cX11_same 187 = .ok (.iadd, 1) := by decide +kernel
theorem dX11_same_188 : decode cX11_same 188 = .ok (.istore 6, 2) := by decide +kernel
theorem dX11_same_190 : decode cX11_same 190 = .ok (.iinc 7 1, 3) := by decide +kernel
theorem dX11_same_193 : decode cX11_same 193 = .ok (.goto (-31), 3) := by decide +kernel
theorem dX11_same_196 : decode cX11_same 196 = .ok (.iload 4, 2) := by decide +kernel
theorem dX11_same_198 : decode cX11_same 198 = .ok (.ifCond .ne 8, 3) := by decide +kernel
theorem dX11_same_201 : decode cX11_same 201 = .ok (.bipush (-4), 2) := by decide +kernel
theorem dX11_same_203 : decode cX11_same 203 = .ok (.goto 8, 3) := by decide +kernel
theorem dX11_same_206 : decode cX11_same 206 = .ok (.iload 6, 2) := by decide +kernel
theorem dX11_same_208 : decode cX11_same 208 = .ok (.iload 4, 2) := by decide +kernel
theorem dX11_same_210 : decode cX11_same 210 = .ok (.idiv, 1) := by decide +kernel
theorem dX11_same_211 : decode cX11_same 211 = .ok (.ireturn, 1) := by decide +kernel
set_option maxRecDepth 20000 in
theorem ggX11_lean_X11_isName : GoodIn wsX11_lean wsX11_isName := goodIn_r _ [5, 6, 7, 8, 4, 9] (by decide +kernel) (by decide +kernel)
set_option maxRecDepth 20000 in
theorem gX11_lean_X11_isName : GoodIn wsX11_lean (va_wsS RX11 240 yX11_isName wsX11_isName) := goodIn_app (goodIn_of _ (by decide +kernel)) ggX11_lean_X11_isName
set_option maxRecDepth 20000 in
theorem ggX11_lean_X11_in : GoodIn wsX11_lean wsX11_in := goodIn_r _ [9] (by decide +kernel) (by decide +kernel)
set_option maxRecDepth 20000 in
theorem gX11_lean_X11_in : GoodIn wsX11_lean (va_wsS RX11 80 yX11_in wsX11_in) := goodIn_app (goodIn_of _ (by decide +kernel)) ggX11_lean_X11_in
set_option maxRecDepth 20000 in
theorem ggX11_lean_X11_toldOf : GoodIn wsX11_lean wsX11_toldOf := goodIn_r _ [13, 14, 15, 16, 17, 18, 19, 20, 21, 22, 23, 24, 25, 26, 27, 28, 29, 30, 31, 32, 33, 34, 35, 36, 37, 38] (by decide +kernel) (by decide +kernel)
set_option maxRecDepth 20000 in
theorem gX11_lean_X11_toldOf : GoodIn wsX11_lean (wsV RX11 249 RX11 yX11_toldOf wsX11_toldOf) := goodIn_app (goodIn_of _ (by decide +kernel)) ggX11_lean_X11_toldOf
theorem dX11_lean_0 : decode cX11_lean 0 = .ok (.iload_n 1, 1) := by decide +kernel
theorem dX11_lean_1 : decode cX11_lean 1 = .ok (.invokestatic 240, 3) := by decide +kernel
theorem dX11_lean_4 : decode cX11_lean 4 = .ok (.ifCond .eq 13, 3) := by decide +kernel
theorem dX11_lean_7 : decode cX11_lean 7 = .ok (.iload_n 2, 1) := by decide +kernel
theorem dX11_lean_8 : decode cX11_lean 8 = .ok (.i2l, 1) := by decide +kernel
theorem dX11_lean_9 : decode cX11_lean 9 = .ok (.lconst 0, 1) := by decide +kernel
theorem dX11_lean_10 : decode cX11_lean 10 = .ok (.lconst 1, 1) := by decide +kernel
theorem dX11_lean_11 : decode cX11_lean 11 = .ok (.invokestatic 80, 3) := by decide +kernel
theorem dX11_lean_14 : decode cX11_lean 14 = .ok (.ifCond .ne 6, 3) := by decide +kernel
theorem dX11_lean_17 : decode cX11_lean 17 = .ok (.ldc 155, 2) := by decide +kernel
theorem dX11_lean_19 : decode cX11_lean 19 = .ok (.ireturn, 1) := by decide +kernel
theorem dX11_lean_20 : decode cX11_lean 20 = .ok (.iconst 0, 1) := by decide +kernel
theorem dX11_lean_21 : decode cX11_lean 21 = .ok (.istore_n 3, 1) := by decide +kernel
theorem dX11_lean_22 : decode cX11_lean 22 = .ok (.iconst 0, 1) := by decide +kernel
theorem dX11_lean_23 : decode cX11_lean 23 = .ok (.istore 4, 2) := by decide +kernel
theorem dX11_lean_25 : decode cX11_lean 25 = .ok (.iconst 0, 1) := by decide +kernel
theorem dX11_lean_26 : decode cX11_lean 26 = .ok (.istore 5, 2) := by decide +kernel
theorem dX11_lean_28 : decode cX11_lean 28 = .ok (.iload 5, 2) := by decide +kernel
theorem dX11_lean_30 : decode cX11_lean 30 = .ok (.bipush 24, 2) := by decide +kernel
theorem dX11_lean_32 : decode cX11_lean 32 = .ok (.if_icmp .ge 102, 3) := by decide +kernel
theorem dX11_lean_35 : decode cX11_lean 35 = .ok (.iconst 0, 1) := by decide +kernel
theorem dX11_lean_36 : decode cX11_lean 36 = .ok (.istore 6, 2) := by decide +kernel
theorem dX11_lean_38 : decode cX11_lean 38 = .ok (.iconst 0, 1) := by decide +kernel
theorem dX11_lean_39 : decode cX11_lean 39 = .ok (.istore 7, 2) := by decide +kernel
theorem dX11_lean_41 : decode cX11_lean 41 = .ok (.iconst 0, 1) := by decide +kernel
theorem dX11_lean_42 : decode cX11_lean 42 = .ok (.istore 8, 2) := by decide +kernel
theorem dX11_lean_44 : decode cX11_lean 44 = .ok (.iload 8, 2) := by decide +kernel
theorem dX11_lean_46 : decode cX11_lean 46 = .ok (.bipush 6, 2) := by decide +kernel
theorem dX11_lean_48 : decode cX11_lean 48 = .ok (.if_icmp .ge 44, 3) := by decide +kernel
theorem dX11_lean_51 : decode cX11_lean 51 = .ok (.iload 8, 2) := by decide +kernel
theorem dX11_lean_53 : decode cX11_lean 53 = .ok (.iload_n 1, 1) := by decide +kernel
theorem dX11_lean_54 : decode cX11_lean 54 = .ok (.if_icmp .eq 32, 3) := by decide +kernel
theorem dX11_lean_57 : decode cX11_lean 57 = .ok (.aload_n 0, 1) := by decide +kernel
theorem dX11_lean_58 : decode cX11_lean 58 = .ok (.iload 8, 2) := by decide +kernel
theorem dX11_lean_60 : decode cX11_lean 60 = .ok (.iload 5, 2) := by decide +kernel
theorem dX11_lean_62 : decode cX11_lean 62 = .ok (.invokevirtual 249, 3) := by decide +kernel
theorem dX11_lean_65 : decode cX11_lean 65 = .ok (.bipush (-21), 2) := by decide +kernel
theorem dX11_lean_67 : decode cX11_lean 67 = .ok (.if_icmp .le 19, 3) := by decide +kernel
theorem dX11_lean_70 : decode cX11_lean 70 = .ok (.iload 6, 2) := by decide +kernel
theorem dX11_lean_72 : decode cX11_lean 72 = .ok (.aload_n 0, 1) := by decide +kernel
theorem dX11_lean_73 : decode cX11_lean 73 = .ok (.iload 8, 2) := by decide +kernel
theorem dX11_lean_75 : decode cX11_lean 75 = .ok (.iload 5, 2) := by decide +kernel
theorem dX11_lean_77 : decode cX11_lean 77 = .ok (.invokevirtual 249, 3) := by decide +kernel
theorem dX11_lean_80 : decode cX11_lean 80 = .ok (.iadd, 1) := by decide +kernel
theorem dX11_lean_81 : decode cX11_lean 81 = .ok (.istore 6, 2) := by decide +kernel
theorem dX11_lean_83 : decode cX11_lean 83 = .ok (.iinc 7 1, 3) := by decide +kernel
theorem dX11_lean_86 : decode cX11_lean 86 = .ok (.iinc 8 1, 3) := by decide +kernel
theorem dX11_lean_89 : decode cX11_lean 89 = .ok (.goto (-45), 3) := by decide +kernel
theorem dX11_lean_92 : decode cX11_lean 92 = .ok (.aload_n 0, 1) := by decide +kernel
theorem dX11_lean_93 : decode cX11_lean 93 = .ok (.iload_n 1, 1) := by decide +kernel
theorem dX11_lean_94 : decode cX11_lean 94 = .ok (.iload 5, 2) := by decide +kernel
theorem dX11_lean_96 : decode cX11_lean 96 = .ok (.invokevirtual 249, 3) := by decide +kernel
theorem dX11_lean_99 : decode cX11_lean 99 = .ok (.bipush (-21), 2) := by decide +kernel
theorem dX11_lean_101 : decode cX11_lean 101 = .ok (.if_icmp .le 27, 3) := by decide +kernel
theorem dX11_lean_104 : decode cX11_lean 104 = .ok (.iload 7, 2) := by decide +kernel
theorem dX11_lean_106 : decode cX11_lean 106 = .ok (.ifCond .le 22, 3) := by decide +kernel
theorem dX11_lean_109 : decode cX11_lean 109 = .ok (.iload_n 3, 1) := by decide +kernel
theorem dX11_lean_110 : decode cX11_lean 110 = .ok (.aload_n 0, 1) := by decide +kernel
theorem dX11_lean_111 : decode cX11_lean 111 = .ok (.iload_n 1, 1) := by decide +kernel
theorem dX11_lean_112 : decode cX11_lean 112 = .ok (.iload 5, 2) := by decide +kernel
theorem dX11_lean_114 : decode cX11_lean 114 = .ok (.invokevirtual 249, 3) := by decide +kernel
theorem dX11_lean_117 : decode cX11_lean 117 = .ok (.iload 6, 2) := by decide +kernel
theorem dX11_lean_119 : decode cX11_lean 119 = .ok (.iload 7, 2) := by decide +kernel
theorem dX11_lean_121 : decode cX11_lean 121 = .ok (.idiv, 1) := by decide +kernel
theorem dX11_lean_122 : decode cX11_lean 122 = .ok (.isub, 1) := by decide +kernel
theorem dX11_lean_123 : decode cX11_lean 123 = .ok (.iadd, 1) := by decide +kernel
theorem dX11_lean_124 : decode cX11_lean 124 = .ok (.istore_n 3, 1) := by decide +kernel
theorem dX11_lean_125 : decode cX11_lean 125 = .ok (.iinc 4 1, 3) := by decide +kernel
theorem dX11_lean_128 : decode cX11_lean 128 = .ok (.iinc 5 1, 3) := by decide +kernel
theorem dX11_lean_131 : decode cX11_lean 131 = .ok (.goto (-103), 3) := by decide +kernel
theorem dX11_lean_134 : decode cX11_lean 134 = .ok (.iload_n 2, 1) := by decide +kernel
theorem dX11_lean_135 : decode cX11_lean 135 = .ok (.ifCond .ne 7, 3) := by decide +kernel
theorem dX11_lean_138 : decode cX11_lean 138 = .ok (.iload_n 3, 1) := by decide +kernel
theorem dX11_lean_139 : decode cX11_lean 139 = .ok (.goto 5, 3) := by decide +kernel
theorem dX11_lean_142 : decode cX11_lean 142 = .ok (.iload 4, 2) := by decide +kernel
theorem dX11_lean_144 : decode cX11_lean 144 = .ok (.ireturn, 1) := by decide +kernel
set_option maxRecDepth 20000 in
theorem ggX11_middle_X11_toldOf : GoodIn wsX11_middle wsX11_toldOf := goodIn_r _ [5, 6, 7, 8, 9, 10, 11, 12, 13, 14, 15, 16, 17, 18, 19, 20, 21, 22, 23, 24, 25, 26, 27, 28, 29, 30] (by decide +kernel) (by decide +kernel)
set_option maxRecDepth 20000 in
theorem gX11_middle_X11_toldOf : GoodIn wsX11_middle (wsV RX11 249 RX11 yX11_toldOf wsX11_toldOf) := goodIn_app (goodIn_of _ (by decide +kernel)) ggX11_middle_X11_toldOf
theorem dX11_middle_0 : decode cX11_middle 0 = .ok (.iconst 0, 1) := by decide +kernel
theorem dX11_middle_1 : decode cX11_middle 1 = .ok (.istore_n 3, 1) := by decide +kernel
theorem dX11_middle_2 : decode cX11_middle 2 = .ok (.iconst 0, 1) := by decide +kernel
theorem dX11_middle_3 : decode cX11_middle 3 = .ok (.istore 4, 2) := by decide +kernel
theorem dX11_middle_5 : decode cX11_middle 5 = .ok (.iload 4, 2) := by decide +kernel
theorem dX11_middle_7 : decode cX11_middle 7 = .ok (.bipush 6, 2) := by decide +kernel
theorem dX11_middle_9 : decode cX11_middle 9 = .ok (.if_icmp .ge 35, 3) := by decide +kernel
theorem dX11_middle_12 : decode cX11_middle 12 = .ok (.iload_n 3, 1) := by decide +kernel
theorem dX11_middle_13 : decode cX11_middle 13 = .ok (.iload 4, 2) := by decide +kernel
theorem dX11_middle_15 : decode cX11_middle 15 = .ok (.iload_n 1, 1) := by decide +kernel
theorem dX11_middle_16 : decode cX11_middle 16 = .ok (.if_icmp .eq 19, 3) := by decide +kernel
theorem dX11_middle_19 : decode cX11_middle 19 = .ok (.aload_n 0, 1) := by decide +kernel
theorem dX11_middle_20 : decode cX11_middle 20 = .ok (.iload 4, 2) := by decide +kernel
theorem dX11_middle_22 : decode cX11_middle 22 = .ok (.iload_n 2, 1) := by decide +kernel
theorem dX11_middle_23 : decode cX11_middle 23 = .ok (.invokevirtual 249, 3) := by decide +kernel
theorem dX11_middle_26 : decode cX11_middle 26 = .ok (.bipush (-21), 2) := by decide +kernel
theorem dX11_middle_28 : decode cX11_middle 28 = .ok (.if_icmp .le 7, 3) := by decide +kernel
theorem dX11_middle_31 : decode cX11_middle 31 = .ok (.iconst 1, 1) := by decide +kernel
theorem dX11_middle_32 : decode cX11_middle 32 = .ok (.goto 4, 3) := by decide +kernel
theorem dX11_middle_35 : decode cX11_middle 35 = .ok (.iconst 0, 1) := by decide +kernel
theorem dX11_middle_36 : decode cX11_middle 36 = .ok (.iadd, 1) := by decide +kernel
theorem dX11_middle_37 : decode cX11_middle 37 = .ok (.istore_n 3, 1) := by decide +kernel
theorem dX11_middle_38 : decode cX11_middle 38 = .ok (.iinc 4 1, 3) := by decide +kernel
theorem dX11_middle_41 : decode cX11_middle 41 = .ok (.goto (-36), 3) := by decide +kernel
theorem dX11_middle_44 : decode cX11_middle 44 = .ok (.iload_n 3, 1) := by decide +kernel
theorem dX11_middle_45 : decode cX11_middle 45 = .ok (.iconst 2, 1) := by decide +kernel
theorem dX11_middle_46 : decode cX11_middle 46 = .ok (.if_icmp .ge 6, 3) := by decide +kernel
theorem dX11_middle_49 : decode cX11_middle 49 = .ok (.bipush (-21), 2) := by decide +kernel
theorem dX11_middle_51 : decode cX11_middle 51 = .ok (.ireturn, 1) := by decide +kernel
theorem dX11_middle_52 : decode cX11_middle 52 = .ok (.bipush (-20), 2) := by decide +kernel
theorem dX11_middle_54 : decode cX11_middle 54 = .ok (.istore 4, 2) := by decide +kernel
theorem dX11_middle_56 : decode cX11_middle 56 = .ok (.iconst 0, 1) := by decide +kernel
theorem dX11_middle_57 : decode cX11_middle 57 = .ok (.istore 5, 2) := by decide +kernel
theorem dX11_middle_59 : decode cX11_middle 59 = .ok (.iload 5, 2) := by decide +kernel
theorem dX11_middle_61 : decode cX11_middle 61 = .ok (.iload_n 3, 1) := by decide +kernel
theorem dX11_middle_62 : decode cX11_middle 62 = .ok (.iconst 1, 1) := by decide +kernel
theorem dX11_middle_63 : decode cX11_middle 63 = .ok (.isub, 1) := by decide +kernel
theorem dX11_middle_64 : decode cX11_middle 64 = .ok (.iconst 2, 1) := by decide +kernel
theorem dX11_middle_65 : decode cX11_middle 65 = .ok (.idiv, 1) := by decide +kernel
theorem dX11_middle_66 : decode cX11_middle 66 = .ok (.if_icmp .gt 53, 3) := by decide +kernel
theorem dX11_middle_69 : decode cX11_middle 69 = .ok (.iconst 0, 1) := by decide +kernel
theorem dX11_middle_70 : decode cX11_middle 70 = .ok (.istore 6, 2) := by decide +kernel
theorem dX11_middle_72 : decode cX11_middle 72 = .ok (.iload 6, 2) := by decide +kernel
theorem dX11_middle_74 : decode cX11_middle 74 = .ok (.bipush 6, 2) := by decide +kernel
theorem dX11_middle_76 : decode cX11_middle 76 = .ok (.if_icmp .ge 37, 3) := by decide +kernel
theorem dX11_middle_79 : decode cX11_middle 79 = .ok (.iload 5, 2) := by decide +kernel
theorem dX11_middle_81 : decode cX11_middle 81 = .ok (.iload 6, 2) := by decide +kernel
theorem dX11_middle_83 : decode cX11_middle 83 = .ok (.iload_n 1, 1) := by decide +kernel
theorem dX11_middle_84 : decode cX11_middle 84 = .ok (.if_icmp .eq 19, 3) := by decide +kernel
theorem dX11_middle_87 : decode cX11_middle 87 = .ok (.aload_n 0, 1) := by decide +kernel
theorem dX11_middle_88 : decode cX11_middle 88 = .ok (.iload 6, 2) := by decide +kernel
theorem dX11_middle_90 : decode cX11_middle 90 = .ok (.iload_n 2, 1) := by decide +kernel
theorem dX11_middle_91 : decode cX11_middle 91 = .ok (.invokevirtual 249, 3) := by decide +kernel
theorem dX11_middle_94 : decode cX11_middle 94 = .ok (.iload 4, 2) := by decide +kernel
theorem dX11_middle_96 : decode cX11_middle 96 = .ok (.if_icmp .ne 7, 3) := by decide +kernel
theorem dX11_middle_99 : decode cX11_middle 99 = .ok (.iconst 1, 1) := by decide +kernel
theorem dX11_middle_100 : decode cX11_middle 100 = .ok (.goto 4, 3) := by decide +kernel
theorem dX11_middle_103 : decode cX11_middle 103 = .ok (.iconst 0, 1) := by decide +kernel
theorem dX11_middle_104 : decode cX11_middle 104 = .ok (.iadd, 1) := by decide +kernel
theorem dX11_middle_105 : decode cX11_middle 105 = .ok (.istore 5, 2) := by decide +kernel
theorem dX11_middle_107 : decode cX11_middle 107 = .ok (.iinc 6 1, 3) := by decide +kernel
theorem dX11_middle_110 : decode cX11_middle 110 = .ok (.goto (-38), 3) := by decide +kernel
theorem dX11_middle_113 : decode cX11_middle 113 = .ok (.iinc 4 1, 3) := by decide +kernel
theorem dX11_middle_116 : decode cX11_middle 116 = .ok (.goto (-57), 3) := by decide +kernel
theorem dX11_middle_119 : decode cX11_middle 119 = .ok (.iload 4, 2) := by decide +kernel
theorem dX11_middle_121 : decode cX11_middle 121 = .ok (.iconst 1, 1) := by decide +kernel
theorem dX11_middle_122 : decode cX11_middle 122 = .ok (.isub, 1) := by decide +kernel
theorem dX11_middle_123 : decode cX11_middle 123 = .ok (.ireturn, 1) := by decide +kernel
set_option maxRecDepth 20000 in
theorem ggX11_unlike_X11_isName : GoodIn wsX11_unlike wsX11_isName := goodIn_r _ [4, 5, 6, 7, 3, 8] (by decide +kernel) (by decide +kernel)
set_option maxRecDepth 20000 in
theorem gX11_unlike_X11_isName : GoodIn wsX11_unlike (va_wsS RX11 240 yX11_isName wsX11_isName) := goodIn_app (goodIn_of _ (by decide +kernel)) ggX11_unlike_X11_isName
set_option maxRecDepth 20000 in
theorem ggX11_unlike_X11_middle : GoodIn wsX11_unlike wsX11_middle := goodIn_r _ [12, 13, 14, 15, 3, 16, 17, 18, 19, 20, 21, 22, 23, 24, 25, 26, 27, 28, 29, 30, 31, 32, 33, 34, 35, 36, 37, 38, 39, 40, 41] (by decide +kernel) (by decide +kernel)
set_option maxRecDepth 20000 in
theorem gX11_unlike_X11_middle : GoodIn wsX11_unlike (wsV RX11 255 RX11 yX11_middle wsX11_middle) := goodIn_app (goodIn_of _ (by decide +kernel)) ggX11_unlike_X11_middle
set_option maxRecDepth 20000 in
theorem ggX11_unlike_X11_toldOf : GoodIn wsX11_unlike wsX11_toldOf := goodIn_r _ [16, 17, 18, 19, 20, 21, 22, 23, 24, 25, 26, 27, 28, 29, 30, 31, 32, 33, 34, 35, 36, 37, 38, 39, 40, 41] (by decide +kernel) (by decide +kernel)
set_option maxRecDepth 20000 in
theorem gX11_unlike_X11_toldOf : GoodIn wsX11_unlike (wsV RX11 249 RX11 yX11_toldOf wsX11_toldOf) := goodIn_app (goodIn_of _ (by decide +kernel)) ggX11_unlike_X11_toldOf
theorem dX11_unlike_0 : decode cX11_unlike 0 = .ok (.iload_n 1, 1) := by decide +kernel
theorem dX11_unlike_1 : decode cX11_unlike 1 = .ok (.invokestatic 240, 3) := by decide +kernel
theorem dX11_unlike_4 : decode cX11_unlike 4 = .ok (.ifCond .ne 5, 3) := by decide +kernel
theorem dX11_unlike_7 : decode cX11_unlike 7 = .ok (.iconst (-1), 1) := by decide +kernel
theorem dX11_unlike_8 : decode cX11_unlike 8 = .ok (.ireturn, 1) := by decide +kernel
theorem dX11_unlike_9 : decode cX11_unlike 9 = .ok (.bipush (-4), 2) := by decide +kernel
theorem dX11_unlike_11 : decode cX11_unlike 11 = .ok (.istore_n 2, 1) := by decide +kernel
theorem dX11_unlike_12 : decode cX11_unlike 12 = .ok (.iconst 0, 1) := by decide +kernel
theorem dX11_unlike_13 : decode cX11_unlike 13 = .ok (.istore_n 3, 1) := by decide +kernel
theorem dX11_unlike_14 : decode cX11_unlike 14 = .ok (.iconst 0, 1) := by decide +kernel
theorem dX11_unlike_15 : decode cX11_unlike 15 = .ok (.istore 4, 2) := by decide +kernel
theorem dX11_unlike_17 : decode cX11_unlike 17 = .ok (.iload 4, 2) := by decide +kernel
theorem dX11_unlike_19 : decode cX11_unlike 19 = .ok (.bipush 24, 2) := by decide +kernel
theorem dX11_unlike_21 : decode cX11_unlike 21 = .ok (.if_icmp .ge 80, 3) := by decide +kernel
theorem dX11_unlike_24 : decode cX11_unlike 24 = .ok (.aload_n 0, 1) := by decide +kernel
theorem dX11_unlike_25 : decode cX11_unlike 25 = .ok (.iload_n 1, 1) := by decide +kernel
theorem dX11_unlike_26 : decode cX11_unlike 26 = .ok (.iload 4, 2) := by decide +kernel
theorem dX11_unlike_28 : decode cX11_unlike 28 = .ok (.invokevirtual 255, 3) := by decide +kernel
theorem dX11_unlike_31 : decode cX11_unlike 31 = .ok (.istore 5, 2) := by decide +kernel
theorem dX11_unlike_33 : decode cX11_unlike 33 = .ok (.aload_n 0, 1) := by decide +kernel
theorem dX11_unlike_34 : decode cX11_unlike 34 = .ok (.iload_n 1, 1) := by decide +kernel
theorem dX11_unlike_35 : decode cX11_unlike 35 = .ok (.iload 4, 2) := by decide +kernel
theorem dX11_unlike_37 : decode cX11_unlike 37 = .ok (.invokevirtual 249, 3) := by decide +kernel
theorem dX11_unlike_40 : decode cX11_unlike 40 = .ok (.bipush (-21), 2) := by decide +kernel
theorem dX11_unlike_42 : decode cX11_unlike 42 = .ok (.if_icmp .le 53, 3) := by decide +kernel
theorem dX11_unlike_45 : decode cX11_unlike 45 = .ok (.iload 5, 2) := by decide +kernel
theorem dX11_unlike_47 : decode cX11_unlike 47 = .ok (.bipush (-21), 2) := by decide +kernel
theorem dX11_unlike_49 : decode cX11_unlike 49 = .ok (.if_icmp .le 46, 3) := by decide +kernel
theorem dX11_unlike_52 : decode cX11_unlike 52 = .ok (.aload_n 0, 1) := by decide +kernel
theorem dX11_unlike_53 : decode cX11_unlike 53 = .ok (.iload_n 1, 1) := by decide +kernel
theorem dX11_unlike_54 : decode cX11_unlike 54 = .ok (.iload 4, 2) := by decide +kernel
theorem dX11_unlike_56 : decode cX11_unlike 56 = .ok (.invokevirtual 249, 3) := by decide +kernel
theorem dX11_unlike_59 : decode cX11_unlike 59 = .ok (.iload 5, 2) := by decide +kernel
theorem dX11_unlike_61 : decode cX11_unlike 61 = .ok (.isub, 1) := by decide +kernel
theorem dX11_unlike_62 : decode cX11_unlike 62 = .ok (.istore 6, 2) := by decide +kernel
theorem dX11_unlike_64 : decode cX11_unlike 64 = .ok (.iload 6, 2) := by decide +kernel
theorem dX11_unlike_66 : decode cX11_unlike 66 = .ok (.ifCond .ge 9, 3) := by decide +kernel
theorem dX11_unlike_69 : decode cX11_unlike 69 = .ok (.iload 6, 2) := by decide +kernel
theorem dX11_unlike_71 : decode cX11_unlike 71 = .ok (.ineg, 1) := by decide +kernel
theorem dX11_unlike_72 : decode cX11_unlike 72 = .ok (.goto 5, 3) := by decide +kernel
theorem dX11_unlike_75 : decode cX11_unlike 75 = .ok (.iload 6, 2) := by decide +kernel
theorem dX11_unlike_77 : decode cX11_unlike 77 = .ok (.istore 6, 2) := by decide +kernel
theorem dX11_unlike_79 : decode cX11_unlike 79 = .ok (.iload_n 2, 1) := by decide +kernel
theorem dX11_unlike_80 : decode cX11_unlike 80 = .ok (.ifCond .lt 9, 3) := by decide +kernel
theorem dX11_unlike_83 : decode cX11_unlike 83 = .ok (.iload 6, 2) := by decide +kernel
theorem dX11_unlike_85 : decode cX11_unlike 85 = .ok (.iload_n 3, 1) := by decide +kernel
theorem dX11_unlike_86 : decode cX11_unlike 86 = .ok (.if_icmp .le 9, 3) := by decide +kernel
theorem dX11_unlike_89 : decode cX11_unlike 89 = .ok (.iload 4, 2) := by decide +kernel
theorem dX11_unlike_91 : decode cX11_unlike 91 = .ok (.istore_n 2, 1) := by decide +kernel
theorem dX11_unlike_92 : decode cX11_unlike 92 = .ok (.iload 6, 2) := by decide +kernel
theorem dX11_unlike_94 : decode cX11_unlike 94 = .ok (.istore_n 3, 1) := by decide +kernel
theorem dX11_unlike_95 : decode cX11_unlike 95 = .ok (.iinc 4 1, 3) := by decide +kernel
theorem dX11_unlike_98 : decode cX11_unlike 98 = .ok (.goto (-81), 3) := by decide +kernel
theorem dX11_unlike_101 : decode cX11_unlike 101 = .ok (.iload_n 2, 1) := by decide +kernel
theorem dX11_unlike_102 : decode cX11_unlike 102 = .ok (.ireturn, 1) := by decide +kernel
set_option maxRecDepth 20000 in
theorem ggX11_areTold_X11_in : GoodIn wsX11_areTold wsX11_in := goodIn_r _ [5] (by decide +kernel) (by decide +kernel)
set_option maxRecDepth 20000 in
theorem gX11_areTold_X11_in : GoodIn wsX11_areTold (va_wsS RX11 80 yX11_in wsX11_in) := goodIn_app (goodIn_of _ (by decide +kernel)) ggX11_areTold_X11_in
theorem dX11_areTold_0 : decode cX11_areTold 0 = .ok (.iload_n 0, 1) := by decide +kernel
theorem dX11_areTold_1 : decode cX11_areTold 1 = .ok (.i2l, 1) := by decide +kernel
theorem dX11_areTold_2 : decode cX11_areTold 2 = .ok (.lconst 0, 1) := by decide +kernel
theorem dX11_areTold_3 : decode cX11_areTold 3 = .ok (.ldc2_w 258, 3) := by decide +kernel
theorem dX11_areTold_6 : decode cX11_areTold 6 = .ok (.invokestatic 80, 3) := by decide +kernel
theorem dX11_areTold_9 : decode cX11_areTold 9 = .ok (.ireturn, 1) := by decide +kernel
set_option maxRecDepth 20000 in
theorem ggX11_added_X11_in : GoodIn wsX11_added wsX11_in := goodIn_r _ [5] (by decide +kernel) (by decide +kernel)
set_option maxRecDepth 20000 in
theorem gX11_added_X11_in : GoodIn wsX11_added (va_wsS RX11 80 yX11_in wsX11_in) := goodIn_app (goodIn_of _ (by decide +kernel)) ggX11_added_X11_in
set_option maxRecDepth 20000 in
theorem ggX11_added_X11_areTold : GoodIn wsX11_added wsX11_areTold := goodIn_r _ [8, 9, 2, 3, 4, 5] (by decide +kernel) (by decide +kernel)
set_option maxRecDepth 20000 in
theorem gX11_added_X11_areTold : GoodIn wsX11_added (va_wsS RX11 260 yX11_areTold wsX11_areTold) := goodIn_app (goodIn_of _ (by decide +kernel)) ggX11_added_X11_areTold
set_option maxRecDepth 20000 in
theorem ggX11_added_X11_pointsOf : GoodIn wsX11_added wsX11_pointsOf := goodIn_r _ [13, 14, 15, 16, 17, 4, 18, 19, 20, 21, 22, 23, 24, 25, 26, 27, 28, 29, 30, 31, 32, 33, 34, 35, 36, 37, 38, 39, 40, 41, 42, 43, 44, 45, 46, 47, 48, 49, 50, 51, 52, 53, 54, 55, 56, 2, 3, 5, 57, 58, 59, 60, 61, 62, 63, 64, 65, 66, 67, 68, 69, 70, 71, 72, 73, 74, 75, 76, 77, 78, 79, 80, 81, 82, 83, 84] (by decide +kernel) (by decide +kernel)
set_option maxRecDepth 20000 in
theorem gX11_added_X11_pointsOf : GoodIn wsX11_added (wsV RX11 183 RX11 yX11_pointsOf wsX11_pointsOf) := goodIn_app (goodIn_of _ (by decide +kernel)) ggX11_added_X11_pointsOf
theorem dX11_added_0 : decode cX11_added 0 = .ok (.iload_n 1, 1) := by decide +kernel
theorem dX11_added_1 : decode cX11_added 1 = .ok (.i2l, 1) := by decide +kernel
theorem dX11_added_2 : decode cX11_added 2 = .ok (.lconst 0, 1) := by decide +kernel
theorem dX11_added_3 : decode cX11_added 3 = .ok (.ldc2_w 181, 3) := by decide +kernel
theorem dX11_added_6 : decode cX11_added 6 = .ok (.invokestatic 80, 3) := by decide +kernel
theorem dX11_added_9 : decode cX11_added 9 = .ok (.ifCond .eq 36, 3) := by decide +kernel
theorem dX11_added_12 : decode cX11_added 12 = .ok (.iload_n 2, 1) := by decide +kernel
theorem dX11_added_13 : decode cX11_added 13 = .ok (.i2l, 1) := by decide +kernel
theorem dX11_added_14 : decode cX11_added 14 = .ok (.lconst 0, 1) := by decide +kernel
theorem dX11_added_15 : decode cX11_added 15 = .ok (.lconst 1, 1) := by decide +kernel
theorem dX11_added_16 : decode cX11_added 16 = .ok (.invokestatic 80, 3) := by decide +kernel
theorem dX11_added_19 : decode cX11_added 19 = .ok (.ifCond .eq 26, 3) := by decide +kernel
theorem dX11_added_22 : decode cX11_added 22 = .ok (.iload_n 3, 1) := by decide +kernel
theorem dX11_added_23 : decode cX11_added 23 = .ok (.invokestatic 260, 3) := by decide +kernel
theorem dX11_added_26 : decode cX11_added 26 = .ok (.ifCond .eq 19, 3) := by decide +kernel
theorem dX11_added_29 : decode cX11_added 29 = .ok (.iload 4, 2) := by decide +kernel
theorem dX11_added_31 : decode cX11_added 31 = .ok (.invokestatic 260, 3) := by decide +kernel
theorem dX11_added_34 : decode cX11_added 34 = .ok (.ifCond .eq 11, 3) := by decide +kernel
theorem dX11_added_37 : decode cX11_added 37 = .ok (.iload 5, 2) := by decide +kernel
theorem dX11_added_39 : decode cX11_added 39 = .ok (.invokestatic 260, 3) := by decide +kernel
theorem dX11_added_42 : decode cX11_added 42 = .ok (.ifCond .ne 5, 3) := by decide +kernel
theorem dX11_added_45 : decode cX11_added 45 = .ok (.iconst (-1), 1) := by decide +kernel
theorem dX11_added_46 : decode cX11_added 46 = .ok (.ireturn, 1) := by decide +kernel
theorem dX11_added_47 : decode cX11_added 47 = .ok (.iconst 0, 1) := by decide +kernel
theorem dX11_added_48 : decode cX11_added 48 = .ok (.istore 6, 2) := by decide +kernel
theorem dX11_added_50 : decode cX11_added 50 = .ok (.iload 6, 2) := by decide +kernel
theorem dX11_added_52 : decode cX11_added 52 = .ok (.iconst 3, 1) := by decide +kernel
theorem dX11_added_53 : decode cX11_added 53 = .ok (.if_icmp .ge 49, 3) := by decide +kernel
theorem dX11_added_56 : decode cX11_added 56 = .ok (.iload 6, 2) := by decide +kernel
theorem dX11_added_58 : decode cX11_added 58 = .ok (.ifCond .ne 7, 3) := by decide +kernel
theorem dX11_added_61 : decode cX11_added 61 = .ok (.iload_n 3, 1) := by decide +kernel
theorem dX11_added_62 : decode cX11_added 62 = .ok (.goto 16, 3) := by decide +kernel
theorem dX11_added_65 : decode cX11_added 65 = .ok (.iload 6, 2) := by decide +kernel
theorem dX11_added_67 : decode cX11_added 67 = .ok (.iconst 1, 1) := by decide +kernel
theorem dX11_added_68 : decode cX11_added 68 = .ok (.if_icmp .ne 8, 3) := by decide +kernel
theorem dX11_added_71 : decode cX11_added 71 = .ok (.iload 4, 2) := by decide +kernel
theorem dX11_added_73 : decode cX11_added 73 = .ok (.goto 5, 3) := by decide +kernel
theorem dX11_added_76 : decode cX11_added 76 = .ok (.iload 5, 2) := by decide +kernel
theorem dX11_added_78 : decode cX11_added 78 = .ok (.istore 7, 2) := by decide +kernel
theorem dX11_added_80 : decode cX11_added 80 = .ok (.aload_n 0, 1) := by decide +kernel
theorem dX11_added_81 : decode cX11_added 81 = .ok (.iload_n 1, 1) := by decide +kernel
theorem dX11_added_82 : decode cX11_added 82 = .ok (.iload 6, 2) := by decide +kernel
theorem dX11_added_84 : decode cX11_added 84 = .ok (.iload_n 2, 1) := by decide +kernel
theorem dX11_added_85 : decode cX11_added 85 = .ok (.invokevirtual 183, 3) := by decide +kernel
theorem dX11_added_88 : decode cX11_added 88 = .ok (.iload 7, 2) := by decide +kernel
theorem dX11_added_90 : decode cX11_added 90 = .ok (.if_icmp .eq 6, 3) := by decide +kernel
theorem dX11_added_93 : decode cX11_added 93 = .ok (.iload 6, 2) := by decide +kernel
theorem dX11_added_95 : decode cX11_added 95 = .ok (.ireturn, 1) := by decide +kernel
theorem dX11_added_96 : decode cX11_added 96 = .ok (.iinc 6 1, 3) := by decide +kernel
theorem dX11_added_99 : decode cX11_added 99 = .ok (.goto (-49), 3) := by decide +kernel
theorem dX11_added_102 : decode cX11_added 102 = .ok (.bipush (-4), 2) := by decide +kernel
theorem dX11_added_104 : decode cX11_added 104 = .ok (.ireturn, 1) := by decide +kernel
set_option maxRecDepth 20000 in
theorem ggX11_tenths_X11_in : GoodIn wsX11_tenths wsX11_in := goodIn_r _ [6] (by decide +kernel) (by decide +kernel)
set_option maxRecDepth 20000 in
theorem gX11_tenths_X11_in : GoodIn wsX11_tenths (va_wsS RX11 80 yX11_in wsX11_in) := goodIn_app (goodIn_of _ (by decide +kernel)) ggX11_tenths_X11_in
theorem dX11_tenths_0 : decode cX11_tenths 0 = .ok (.iload_n 1, 1) := by decide +kernel
theorem dX11_tenths_1 : decode cX11_tenths 1 = .ok (.i2l, 1) := by decide +kernel
theorem dX11_tenths_2 : decode cX11_tenths 2 = .ok (.lconst 0, 1) := by decide +kernel
theorem dX11_tenths_3 : decode cX11_tenths 3 = .ok (.lconst 1, 1) := by decide +kernel
theorem dX11_tenths_4 : decode cX11_tenths 4 = .ok (.invokestatic 80, 3) := by decide +kernel
theorem dX11_tenths_7 : decode cX11_tenths 7 = .ok (.ifCond .eq 25, 3) := by decide +kernel
theorem dX11_tenths_10 : decode cX11_tenths 10 = .ok (.iload_n 2, 1) := by decide +kernel
theorem dX11_tenths_11 : decode cX11_tenths 11 = .ok (.i2l, 1) := by decide +kernel
theorem dX11_tenths_12 : decode cX11_tenths 12 = .ok (.lconst 0, 1) := by decide +kernel
theorem dX11_tenths_13 : decode cX11_tenths 13 = .ok (.lconst 1, 1) := by decide +kernel
theorem dX11_tenths_14 : decode cX11_tenths 14 = .ok (.invokestatic 80, 3) := by decide +kernel
theorem dX11_tenths_17 : decode cX11_tenths 17 = .ok (.ifCond .eq 15, 3) := by decide +kernel
theorem dX11_tenths_20 : decode cX11_tenths 20 = .ok (.iload_n 3, 1) := by decide +kernel
theorem dX11_tenths_21 : decode cX11_tenths 21 = .ok (.i2l, 1) := by decide +kernel
theorem dX11_tenths_22 : decode cX11_tenths 22 = .ok (.lconst 0, 1) := by decide +kernel
theorem dX11_tenths_23 : decode cX11_tenths 23 = .ok (.ldc2_w 263, 3) := by decide +kernel
theorem dX11_tenths_26 : decode cX11_tenths 26 = .ok (.invokestatic 80, 3) := by decide +kernel
theorem dX11_tenths_29 : decode cX11_tenths 29 = .ok (.ifCond .ne 5, 3) := by decide +kernel
theorem dX11_tenths_32 : decode cX11_tenths 32 = .ok (.iconst (-1), 1) := by decide +kernel
theorem dX11_tenths_33 : decode cX11_tenths 33 = .ok (.ireturn, 1) := by decide +kernel
theorem dX11_tenths_34 : decode cX11_tenths 34 = .ok (.aload_n 0, 1) := by decide +kernel
theorem dX11_tenths_35 : decode cX11_tenths 35 = .ok (.getfield 49, 3) := by decide +kernel
theorem dX11_tenths_38 : decode cX11_tenths 38 = .ok (.iconst 2, 1) := by decide +kernel
theorem dX11_tenths_39 : decode cX11_tenths 39 = .ok (.iload_n 1, 1) := by decide +kernel
theorem dX11_tenths_40 : decode cX11_tenths 40 = .ok (.imul, 1) := by decide +kernel
theorem dX11_tenths_41 : decode cX11_tenths 41 = .ok (.iload_n 2, 1) := by decide +kernel
theorem dX11_tenths_42 : decode cX11_tenths 42 = .ok (.iadd, 1) := by decide +kernel
theorem dX11_tenths_43 : decode cX11_tenths 43 = .ok (.iaload, 1) := by decide +kernel
theorem dX11_tenths_44 : decode cX11_tenths 44 = .ok (.istore 4, 2) := by decide +kernel
theorem dX11_tenths_46 : decode cX11_tenths 46 = .ok (.aload_n 0, 1) := by decide +kernel
theorem dX11_tenths_47 : decode cX11_tenths 47 = .ok (.getfield 49, 3) := by decide +kernel
theorem dX11_tenths_50 : decode cX11_tenths 50 = .ok (.iconst 2, 1) := by decide +kernel
theorem dX11_tenths_51 : decode cX11_tenths 51 = .ok (.iload_n 1, 1) := by decide +kernel
theorem dX11_tenths_52 : decode cX11_tenths 52 = .ok (.imul, 1) := by decide +kernel
theorem dX11_tenths_53 : decode cX11_tenths 53 = .ok (.iload_n 2, 1) := by decide +kernel
theorem dX11_tenths_54 : decode cX11_tenths 54 = .ok (.iadd, 1) := by decide +kernel
theorem dX11_tenths_55 : decode cX11_tenths 55 = .ok (.iload_n 3, 1) := by decide +kernel
theorem dX11_tenths_56 : decode cX11_tenths 56 = .ok (.iastore, 1) := by decide +kernel
theorem dX11_tenths_57 : decode cX11_tenths 57 = .ok (.iload 4, 2) := by decide +kernel
theorem dX11_tenths_59 : decode cX11_tenths 59 = .ok (.ireturn, 1) := by decide +kernel
theorem dX11_endValues_0 : decode cX11_endValues 0 = .ok (.iconst 0, 1) := by decide +kernel
theorem dX11_endValues_1 : decode cX11_endValues 1 = .ok (.istore_n 1, 1) := by decide +kernel
theorem dX11_endValues_2 : decode cX11_endValues 2 = .ok (.iload_n 1, 1) := by decide +kernel
theorem dX11_endValues_3 : decode cX11_endValues 3 = .ok (.bipush 51, 2) := by decide +kernel
theorem dX11_endValues_5 : decode cX11_endValues 5 = .ok (.if_icmp .ge 40, 3) := by decide +kernel
theorem dX11_endValues_8 : decode cX11_endValues 8 = .ok (.aload_n 0, 1) := by decide +kernel
theorem dX11_endValues_9 : decode cX11_endValues 9 = .ok (.getfield 68, 3) := by decide +kernel
theorem dX11_endValues_12 : decode cX11_endValues 12 = .ok (.iload_n 1, 1) := by decide +kernel
theorem dX11_endValues_13 : decode cX11_endValues 13 = .ok (.iload_n 1, 1) := by decide +kernel
theorem dX11_endValues_14 : decode cX11_endValues 14 = .ok (.bipush 25, 2) := by decide +kernel
theorem dX11_endValues_16 : decode cX11_endValues 16 = .ok (.if_icmp .le 9, 3) := by decide +kernel
theorem dX11_endValues_19 : decode cX11_endValues 19 = .ok (.ldc_w 265, 3) := by decide +kernel
theorem dX11_endValues_22 : decode cX11_endValues 22 = .ok (.goto 16, 3) := by decide +kernel
theorem dX11_endValues_25 : decode cX11_endValues 25 = .ok (.iload_n 1, 1) := by decide +kernel
theorem dX11_endValues_26 : decode cX11_endValues 26 = .ok (.bipush 25, 2) := by decide +kernel
theorem dX11_endValues_28 : decode cX11_endValues 28 = .ok (.if_icmp .ne 9, 3) := by decide +kernel
theorem dX11_endValues_31 : decode cX11_endValues 31 = .ok (.ldc_w 266, 3) := by decide +kernel
theorem dX11_endValues_34 : decode cX11_endValues 34 = .ok (.goto 4, 3) := by decide +kernel
theorem dX11_endValues_37 : decode cX11_endValues 37 = .ok (.iconst 0, 1) := by decide +kernel
theorem dX11_endValues_38 : decode cX11_endValues 38 = .ok (.iastore, 1) := by decide +kernel
theorem dX11_endValues_39 : decode cX11_endValues 39 = .ok (.iinc 1 1, 3) := by decide +kernel
theorem dX11_endValues_42 : decode cX11_endValues 42 = .ok (.goto (-40), 3) := by decide +kernel
theorem dX11_endValues_45 : decode cX11_endValues 45 = .ok (.return_, 1) := by decide +kernel
theorem dX11_roundBy_0 : decode cX11_roundBy 0 = .ok (.aload_n 0, 1) := by decide +kernel
theorem dX11_roundBy_1 : decode cX11_roundBy 1 = .ok (.getfield 49, 3) := by decide +kernel
theorem dX11_roundBy_4 : decode cX11_roundBy 4 = .ok (.iconst 2, 1) := by decide +kernel
theorem dX11_roundBy_5 : decode cX11_roundBy 5 = .ok (.iload_n 2, 1) := by decide +kernel
theorem dX11_roundBy_6 : decode cX11_roundBy 6 = .ok (.imul, 1) := by decide +kernel
theorem dX11_roundBy_7 : decode cX11_roundBy 7 = .ok (.iload_n 3, 1) := by decide +kernel
theorem dX11_roundBy_8 : decode cX11_roundBy 8 = .ok (.iadd, 1) := by decide +kernel
theorem dX11_roundBy_9 : decode cX11_roundBy 9 = .ok (.iaload, 1) := by decide +kernel
theorem dX11_roundBy_10 : decode cX11_roundBy 10 = .ok (.istore 4, 2) := by decide +kernel
theorem dX11_roundBy_12 : decode cX11_roundBy 12 = .ok (.iload 4, 2) := by decide +kernel
theorem dX11_roundBy_14 : decode cX11_roundBy 14 = .ok (.i2l, 1) := by decide +kernel
theorem dX11_roundBy_15 : decode cX11_roundBy 15 = .ok (.aload_n 0, 1) := by decide +kernel
theorem dX11_roundBy_16 : decode cX11_roundBy 16 = .ok (.getfield 68, 3) := by decide +kernel
theorem dX11_roundBy_19 : decode cX11_roundBy 19 = .ok (.iload_n 1, 1) := by decide +kernel
theorem dX11_roundBy_20 : decode cX11_roundBy 20 = .ok (.iconst 1, 1) := by decide +kernel
theorem dX11_roundBy_21 : decode cX11_roundBy 21 = .ok (.iadd, 1) := by decide +kernel
theorem dX11_roundBy_22 : decode cX11_roundBy 22 = .ok (.iaload, 1) := by decide +kernel
theorem dX11_roundBy_23 : decode cX11_roundBy 23 = .ok (.i2l, 1) := by decide +kernel
theorem dX11_roundBy_24 : decode cX11_roundBy 24 = .ok (.lmul, 1) := by decide +kernel
theorem dX11_roundBy_25 : decode cX11_roundBy 25 = .ok (.bipush 10, 2) := by decide +kernel
theorem dX11_roundBy_27 : decode cX11_roundBy 27 = .ok (.iload 4, 2) := by decide +kernel
theorem dX11_roundBy_29 : decode cX11_roundBy 29 = .ok (.isub, 1) := by decide +kernel
theorem dX11_roundBy_30 : decode cX11_roundBy 30 = .ok (.i2l, 1) := by decide +kernel
theorem dX11_roundBy_31 : decode cX11_roundBy 31 = .ok (.aload_n 0, 1) := by decide +kernel
theorem dX11_roundBy_32 : decode cX11_roundBy 32 = .ok (.getfield 68, 3) := by decide +kernel
theorem dX11_roundBy_35 : decode cX11_roundBy 35 = .ok (.iload_n 1, 1) := by decide +kernel
theorem dX11_roundBy_36 : decode cX11_roundBy 36 = .ok (.iconst 1, 1) := by decide +kernel
theorem dX11_roundBy_37 : decode cX11_roundBy 37 = .ok (.isub, 1) := by decide +kernel
theorem dX11_roundBy_38 : decode cX11_roundBy 38 = .ok (.iaload, 1) := by decide +kernel
theorem dX11_roundBy_39 : decode cX11_roundBy 39 = .ok (.i2l, 1) := by decide +kernel
theorem dX11_roundBy_40 : decode cX11_roundBy 40 = .ok (.lmul, 1) := by decide +kernel
theorem dX11_roundBy_41 : decode cX11_roundBy 41 = .ok (.ladd, 1) := by decide +kernel
theorem dX11_roundBy_42 : decode cX11_roundBy 42 = .ok (.l2i, 1) := by decide +kernel
theorem dX11_roundBy_43 : decode cX11_roundBy 43 = .ok (.bipush 10, 2) := by decide +kernel
theorem dX11_roundBy_45 : decode cX11_roundBy 45 = .ok (.idiv, 1) := by decide +kernel
theorem dX11_roundBy_46 : decode cX11_roundBy 46 = .ok (.ireturn, 1) := by decide +kernel
set_option maxRecDepth 20000 in
theorem ggX11_answer_X11_roundBy : GoodIn wsX11_answer wsX11_roundBy := goodIn_r _ [5, 6, 7, 8, 9, 10, 11, 12, 13, 14, 15, 16, 17, 18, 19, 20, 21, 22, 23, 24, 25, 26, 27, 28, 29, 30, 31] (by decide +kernel) (by decide +kernel)
set_option maxRecDepth 20000 in
theorem gX11_answer_X11_roundBy : GoodIn wsX11_answer (wsV RX11 267 RX11 yX11_roundBy wsX11_roundBy) := goodIn_app (goodIn_of _ (by decide +kernel)) ggX11_answer_X11_roundBy
theorem dX11_answer_0 : decode cX11_answer 0 = .ok (.aload_n 0, 1) := by decide +kernel
theorem dX11_answer_1 : decode cX11_answer 1 = .ok (.iload_n 1, 1) := by decide +kernel
theorem dX11_answer_2 : decode cX11_answer 2 = .ok (.iload_n 2, 1) := by decide +kernel
theorem dX11_answer_3 : decode cX11_answer 3 = .ok (.iconst 1, 1) := by decide +kernel
theorem dX11_answer_4 : decode cX11_answer 4 = .ok (.invokevirtual 267, 3) := by decide +kernel
theorem dX11_answer_7 : decode cX11_answer 7 = .ok (.aload_n 0, 1) := by decide +kernel
theorem dX11_answer_8 : decode cX11_answer 8 = .ok (.iload_n 1, 1) := by decide +kernel
theorem dX11_answer_9 : decode cX11_answer 9 = .ok (.iload_n 2, 1) := by decide +kernel
theorem dX11_answer_10 : decode cX11_answer 10 = .ok (.iconst 0, 1) := by decide +kernel
theorem dX11_answer_11 : decode cX11_answer 11 = .ok (.invokevirtual 267, 3) := by decide +kernel
theorem dX11_answer_14 : decode cX11_answer 14 = .ok (.if_icmp .ge 7, 3) := by decide +kernel
theorem dX11_answer_17 : decode cX11_answer 17 = .ok (.iconst 1, 1) := by decide +kernel
theorem dX11_answer_18 : decode cX11_answer 18 = .ok (.goto 4, 3) := by decide +kernel
theorem dX11_answer_21 : decode cX11_answer 21 = .ok (.iconst 0, 1) := by decide +kernel
theorem dX11_answer_22 : decode cX11_answer 22 = .ok (.ireturn, 1) := by decide +kernel
set_option maxRecDepth 20000 in
theorem ggX11_choice_X11_answer : GoodIn wsX11_choice wsX11_answer := goodIn_r _ [5, 6, 7, 8, 4, 9, 10, 11, 12, 13, 14, 15, 16, 17, 18, 19, 20, 21, 22, 23, 24, 25, 26, 27, 28, 29, 30, 31, 32, 33, 34, 35] (by decide +kernel) (by decide +kernel)
set_option maxRecDepth 20000 in
theorem gX11_choice_X11_answer : GoodIn wsX11_choice (wsV RX11 270 RX11 yX11_answer wsX11_answer) := goodIn_app (goodIn_of _ (by decide +kernel)) ggX11_choice_X11_answer
set_option maxRecDepth 20000 in
theorem ggX11_choice_X11_roundBy : GoodIn wsX11_choice wsX11_roundBy := goodIn_r _ [9, 10, 11, 12, 13, 14, 15, 16, 17, 18, 19, 20, 21, 22, 23, 24, 25, 26, 27, 28, 29, 30, 31, 32, 33, 34, 35] (by decide +kernel) (by decide +kernel)
set_option maxRecDepth 20000 in
theorem gX11_choice_X11_roundBy : GoodIn wsX11_choice (wsV RX11 267 RX11 yX11_roundBy wsX11_roundBy) := goodIn_app (goodIn_of _ (by decide +kernel)) ggX11_choice_X11_roundBy
theorem dX11_choice_0 : decode cX11_choice 0 = .ok (.aload_n 0, 1) := by decide +kernel
theorem dX11_choice_1 : decode cX11_choice 1 = .ok (.iload_n 1, 1) := by decide +kernel
theorem dX11_choice_2 : decode cX11_choice 2 = .ok (.iconst 1, 1) := by decide +kernel
theorem dX11_choice_3 : decode cX11_choice 3 = .ok (.aload_n 0, 1) := by decide +kernel
theorem dX11_choice_4 : decode cX11_choice 4 = .ok (.iload_n 1, 1) := by decide +kernel
theorem dX11_choice_5 : decode cX11_choice 5 = .ok (.iconst 1, 1) := by decide +kernel
theorem dX11_choice_6 : decode cX11_choice 6 = .ok (.invokevirtual 270, 3) := by decide +kernel
theorem dX11_choice_9 : decode cX11_choice 9 = .ok (.invokevirtual 267, 3) := by decide +kernel
theorem dX11_choice_12 : decode cX11_choice 12 = .ok (.aload_n 0, 1) := by decide +kernel
theorem dX11_choice_13 : decode cX11_choice 13 = .ok (.iload_n 1, 1) := by decide +kernel
theorem dX11_choice_14 : decode cX11_choice 14 = .ok (.iconst 0, 1) := by decide +kernel
theorem dX11_choice_15 : decode cX11_choice 15 = .ok (.aload_n 0, 1) := by decide +kernel
theorem dX11_choice_16 : decode cX11_choice 16 = .ok (.iload_n 1, 1) := by decide +kernel
theorem dX11_choice_17 : decode cX11_choice 17 = .ok (.iconst 0, 1) := by decide +kernel
theorem dX11_choice_18 : decode cX11_choice 18 = .ok (.invokevirtual 270, 3) := by decide +kernel
theorem dX11_choice_21 : decode cX11_choice 21 = .ok (.invokevirtual 267, 3) := by decide +kernel
theorem dX11_choice_24 : decode cX11_choice 24 = .ok (.if_icmp .le 7, 3) := by decide +kernel
theorem dX11_choice_27 : decode cX11_choice 27 = .ok (.iconst 1, 1) := by decide +kernel
theorem dX11_choice_28 : decode cX11_choice 28 = .ok (.goto 4, 3) := by decide +kernel
theorem dX11_choice_31 : decode cX11_choice 31 = .ok (.iconst 0, 1) := by decide +kernel
theorem dX11_choice_32 : decode cX11_choice 32 = .ok (.ireturn, 1) := by decide +kernel
theorem dX11_takeNext_0 : decode cX11_takeNext 0 = .ok (.iconst 1, 1) := by decide +kernel
theorem dX11_takeNext_1 : decode cX11_takeNext 1 = .ok (.istore_n 1, 1) := by decide +kernel
theorem dX11_takeNext_2 : decode cX11_takeNext 2 = .ok (.iload_n 1, 1) := by decide +kernel
theorem dX11_takeNext_3 : decode cX11_takeNext 3 = .ok (.bipush 50, 2) := by decide +kernel
theorem dX11_takeNext_5 : decode cX11_takeNext 5 = .ok (.if_icmp .ge 21, 3) := by decide +kernel
theorem dX11_takeNext_8 : decode cX11_takeNext 8 = .ok (.aload_n 0, 1) := by decide +kernel
theorem dX11_takeNext_9 : decode cX11_takeNext 9 = .ok (.getfield 68, 3) := by decide +kernel
theorem dX11_takeNext_12 : decode cX11_takeNext 12 = .ok (.iload_n 1, 1) := by decide +kernel
theorem dX11_takeNext_13 : decode cX11_takeNext 13 = .ok (.aload_n 0, 1) := by decide +kernel
theorem dX11_takeNext_14 : decode cX11_takeNext 14 = .ok (.getfield 71, 3) := by decide +kernel
theorem dX11_takeNext_17 : decode cX11_takeNext 17 = .ok (.iload_n 1, 1) := by decide +kernel
theorem dX11_takeNext_18 : decode cX11_takeNext 18 = .ok (.iaload, 1) := by decide +kernel
theorem dX11_takeNext_19 : decode cX11_takeNext 19 = .ok (.iastore, 1) := by decide +kernel
theorem dX11_takeNext_20 : decode cX11_takeNext 20 = .ok (.iinc 1 1, 3) := by decide +kernel
theorem dX11_takeNext_23 : decode cX11_takeNext 23 = .ok (.goto (-21), 3) := by decide +kernel
theorem dX11_takeNext_26 : decode cX11_takeNext 26 = .ok (.return_, 1) := by decide +kernel
set_option maxRecDepth 20000 in
theorem ggX11_areLeft_X11_in : GoodIn wsX11_areLeft wsX11_in := goodIn_r _ [6] (by decide +kernel) (by decide +kernel)
set_option maxRecDepth 20000 in
theorem gX11_areLeft_X11_in : GoodIn wsX11_areLeft (va_wsS RX11 80 yX11_in wsX11_in) := goodIn_app (goodIn_of _ (by decide +kernel)) ggX11_areLeft_X11_in
theorem dX11_areLeft_0 : decode cX11_areLeft 0 = .ok (.iload_n 0, 1) := by decide +kernel
theorem dX11_areLeft_1 : decode cX11_areLeft 1 = .ok (.i2l, 1) := by decide +kernel
theorem dX11_areLeft_2 : decode cX11_areLeft 2 = .ok (.lconst 1, 1) := by decide +kernel
theorem dX11_areLeft_3 : decode cX11_areLeft 3 = .ok (.ldc2_w 109, 3) := by decide +kernel
theorem dX11_areLeft_6 : decode cX11_areLeft 6 = .ok (.invokestatic 80, 3) := by decide +kernel
theorem dX11_areLeft_9 : decode cX11_areLeft 9 = .ok (.ifCond .eq 21, 3) := by decide +kernel
theorem dX11_areLeft_12 : decode cX11_areLeft 12 = .ok (.iload_n 1, 1) := by decide +kernel
theorem dX11_areLeft_13 : decode cX11_areLeft 13 = .ok (.i2l, 1) := by decide +kernel
theorem dX11_areLeft_14 : decode cX11_areLeft 14 = .ok (.ldc2_w 273, 3) := by decide +kernel
theorem dX11_areLeft_17 : decode cX11_areLeft 17 = .ok (.ldc2_w 109, 3) := by decide +kernel
theorem dX11_areLeft_20 : decode cX11_areLeft 20 = .ok (.invokestatic 80, 3) := by decide +kernel
theorem dX11_areLeft_23 : decode cX11_areLeft 23 = .ok (.ifCond .eq 7, 3) := by decide +kernel
theorem dX11_areLeft_26 : decode cX11_areLeft 26 = .ok (.iconst 1, 1) := by decide +kernel
theorem dX11_areLeft_27 : decode cX11_areLeft 27 = .ok (.goto 4, 3) := by decide +kernel
theorem dX11_areLeft_30 : decode cX11_areLeft 30 = .ok (.iconst 0, 1) := by decide +kernel
theorem dX11_areLeft_31 : decode cX11_areLeft 31 = .ok (.ireturn, 1) := by decide +kernel
set_option maxRecDepth 20000 in
theorem ggX11_open_X11_areLeft : GoodIn wsX11_open wsX11_areLeft := goodIn_r _ [6, 7, 8, 9, 10, 5, 11] (by decide +kernel) (by decide +kernel)
set_option maxRecDepth 20000 in
theorem gX11_open_X11_areLeft : GoodIn wsX11_open (va_wsS RX11 275 yX11_areLeft wsX11_areLeft) := goodIn_app (goodIn_of _ (by decide +kernel)) ggX11_open_X11_areLeft
set_option maxRecDepth 20000 in
theorem ggX11_open_X11_in : GoodIn wsX11_open wsX11_in := goodIn_r _ [11] (by decide +kernel) (by decide +kernel)
set_option maxRecDepth 20000 in
theorem gX11_open_X11_in : GoodIn wsX11_open (va_wsS RX11 80 yX11_in wsX11_in) := goodIn_app (goodIn_of _ (by decide +kernel)) ggX11_open_X11_in
set_option maxRecDepth 20000 in
theorem ggX11_open_X11_endValues : GoodIn wsX11_open wsX11_endValues := goodIn_r _ [15, 16, 17, 18, 36, 37, 38, 39, 40, 41, 42, 43, 44, 45, 46, 47, 48, 49, 50, 51, 52, 53, 54, 55, 56, 57, 58, 59] (by decide +kernel) (by decide +kernel)
set_option maxRecDepth 20000 in
theorem gX11_open_X11_endValues : GoodIn wsX11_open (wsV RX11 278 RX11 yX11_endValues wsX11_endValues) := goodIn_app (goodIn_of _ (by decide +kernel)) ggX11_open_X11_endValues
set_option maxRecDepth 20000 in
theorem ggX11_open_X11_choice : GoodIn wsX11_open wsX11_choice := goodIn_r _ [22, 23, 24, 25, 5, 26, 27, 28, 29, 30, 31, 16, 36, 37, 38, 39, 40, 41, 42, 43, 44, 45, 46, 47, 48, 49, 50, 51, 52, 53, 54, 55, 56, 57, 58, 59] (by decide +kernel) (by decide +kernel)
set_option maxRecDepth 20000 in
theorem gX11_open_X11_choice : GoodIn wsX11_open (wsV RX11 281 RX11 yX11_choice wsX11_choice) := goodIn_app (goodIn_of _ (by decide +kernel)) ggX11_open_X11_choice
set_option maxRecDepth 20000 in
theorem ggX11_open_X11_answer : GoodIn wsX11_open wsX11_answer := goodIn_r _ [26, 27, 28, 29, 5, 30, 31, 16, 36, 37, 38, 39, 40, 41, 42, 43, 44, 45, 46, 47, 48, 49, 50, 51, 52, 53, 54, 55, 56, 57, 58, 59] (by decide +kernel) (by decide +kernel)
set_option maxRecDepth 20000 in
theorem gX11_open_X11_answer : GoodIn wsX11_open (wsV RX11 270 RX11 yX11_answer wsX11_answer) := goodIn_app (goodIn_of _ (by decide +kernel)) ggX11_open_X11_answer
set_option maxRecDepth 20000 in
theorem ggX11_open_X11_roundBy : GoodIn wsX11_open wsX11_roundBy := goodIn_r _ [30, 31, 16, 36, 37, 38, 39, 40, 41, 42, 43, 44, 45, 46, 47, 48, 49, 50, 51, 52, 53, 54, 55, 56, 57, 58, 59] (by decide +kernel) (by decide +kernel)
set_option maxRecDepth 20000 in
theorem gX11_open_X11_roundBy : GoodIn wsX11_open (wsV RX11 267 RX11 yX11_roundBy wsX11_roundBy) := goodIn_app (goodIn_of _ (by decide +kernel)) ggX11_open_X11_roundBy
set_option maxRecDepth 20000 in
theorem ggX11_open_X11_takeNext : GoodIn wsX11_open wsX11_takeNext := goodIn_r _ [35, 16, 2, 36, 37, 38, 39, 40, 41, 42, 43, 44, 45, 46, 47, 48, 49, 50, 51, 52, 53, 54, 55, 56, 57, 58, 59] (by decide +kernel) (by decide +kernel)
set_option maxRecDepth 20000 in
theorem gX11_open_X11_takeNext : GoodIn wsX11_open (wsV RX11 284 RX11 yX11_takeNext wsX11_takeNext) := goodIn_app (goodIn_of _ (by decide +kernel)) ggX11_open_X11_takeNext
