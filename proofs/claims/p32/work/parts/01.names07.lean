theorem dX3_addUp_88 : decode cX3_addUp 88 = .ok (.aload_n 0, 1) := by decide +kernel
theorem dX3_addUp_89 : decode cX3_addUp 89 = .ok (.iload_n 1, 1) := by decide +kernel
theorem dX3_addUp_90 : decode cX3_addUp 90 = .ok (.iload_n 2, 1) := by decide +kernel
theorem dX3_addUp_91 : decode cX3_addUp 91 = .ok (.iconst 0, 1) := by decide +kernel
theorem dX3_addUp_92 : decode cX3_addUp 92 = .ok (.invokevirtual 90, 3) := by decide +kernel
theorem dX3_addUp_95 : decode cX3_addUp 95 = .ok (.aload_n 0, 1) := by decide +kernel
theorem dX3_addUp_96 : decode cX3_addUp 96 = .ok (.iload_n 1, 1) := by decide +kernel
theorem dX3_addUp_97 : decode cX3_addUp 97 = .ok (.iload_n 2, 1) := by decide +kernel
theorem dX3_addUp_98 : decode cX3_addUp 98 = .ok (.iconst 1, 1) := by decide +kernel
theorem dX3_addUp_99 : decode cX3_addUp 99 = .ok (.invokevirtual 90, 3) := by decide +kernel
theorem dX3_addUp_102 : decode cX3_addUp 102 = .ok (.isub, 1) := by decide +kernel
theorem dX3_addUp_103 : decode cX3_addUp 103 = .ok (.istore_n 3, 1) := by decide +kernel
theorem dX3_addUp_104 : decode cX3_addUp 104 = .ok (.aload_n 0, 1) := by decide +kernel
theorem dX3_addUp_105 : decode cX3_addUp 105 = .ok (.getfield 31, 3) := by decide +kernel
theorem dX3_addUp_108 : decode cX3_addUp 108 = .ok (.iload_n 1, 1) := by decide +kernel
theorem dX3_addUp_109 : decode cX3_addUp 109 = .ok (.bipush 12, 2) := by decide +kernel
theorem dX3_addUp_111 : decode cX3_addUp 111 = .ok (.imul, 1) := by decide +kernel
theorem dX3_addUp_112 : decode cX3_addUp 112 = .ok (.iload_n 2, 1) := by decide +kernel
theorem dX3_addUp_113 : decode cX3_addUp 113 = .ok (.iadd, 1) := by decide +kernel
theorem dX3_addUp_114 : decode cX3_addUp 114 = .ok (.iload_n 3, 1) := by decide +kernel
theorem dX3_addUp_115 : decode cX3_addUp 115 = .ok (.aload_n 0, 1) := by decide +kernel
theorem dX3_addUp_116 : decode cX3_addUp 116 = .ok (.iload_n 1, 1) := by decide +kernel
theorem dX3_addUp_117 : decode cX3_addUp 117 = .ok (.iconst 3, 1) := by decide +kernel
theorem dX3_addUp_118 : decode cX3_addUp 118 = .ok (.invokevirtual 82, 3) := by decide +kernel
theorem dX3_addUp_121 : decode cX3_addUp 121 = .ok (.iadd, 1) := by decide +kernel
theorem dX3_addUp_122 : decode cX3_addUp 122 = .ok (.bipush 20, 2) := by decide +kernel
theorem dX3_addUp_124 : decode cX3_addUp 124 = .ok (.isub, 1) := by decide +kernel
theorem dX3_addUp_125 : decode cX3_addUp 125 = .ok (.iastore, 1) := by decide +kernel
theorem dX3_addUp_126 : decode cX3_addUp 126 = .ok (.iinc 2 1, 3) := by decide +kernel
theorem dX3_addUp_129 : decode cX3_addUp 129 = .ok (.goto (-47), 3) := by decide +kernel
theorem dX3_addUp_132 : decode cX3_addUp 132 = .ok (.iinc 1 1, 3) := by decide +kernel
theorem dX3_addUp_135 : decode cX3_addUp 135 = .ok (.goto (-125), 3) := by decide +kernel
theorem dX3_addUp_138 : decode cX3_addUp 138 = .ok (.return_, 1) := by decide +kernel
set_option maxRecDepth 20000 in
theorem ggX3_addUpBlow_X3_judgePart : GoodIn wsX3_addUpBlow wsX3_judgePart := goodIn_r _ [9, 10, 29, 30, 31, 32, 33, 34, 35, 36, 37, 38, 39, 40, 41] (by decide +kernel) (by decide +kernel)
set_option maxRecDepth 20000 in
theorem gX3_addUpBlow_X3_judgePart : GoodIn wsX3_addUpBlow (wsV RX3 82 RX3 yX3_judgePart wsX3_judgePart) := goodIn_app (goodIn_of _ (by decide +kernel)) ggX3_addUpBlow_X3_judgePart
set_option maxRecDepth 20000 in
theorem ggX3_addUpBlow_X3_blowPart : GoodIn wsX3_addUpBlow wsX3_blowPart := goodIn_r _ [14, 15, 29, 30, 31, 32, 33, 34, 35, 36, 37, 38, 39, 40, 41] (by decide +kernel) (by decide +kernel)
set_option maxRecDepth 20000 in
theorem gX3_addUpBlow_X3_blowPart : GoodIn wsX3_addUpBlow (wsV RX3 94 RX3 yX3_blowPart wsX3_blowPart) := goodIn_app (goodIn_of _ (by decide +kernel)) ggX3_addUpBlow_X3_blowPart
set_option maxRecDepth 20000 in
theorem ggX3_addUpBlow_X3_isSeenFrom : GoodIn wsX3_addUpBlow wsX3_isSeenFrom := goodIn_r _ [18, 19, 20, 21, 22, 23, 24, 25] (by decide +kernel) (by decide +kernel)
set_option maxRecDepth 20000 in
theorem gX3_addUpBlow_X3_isSeenFrom : GoodIn wsX3_addUpBlow (va_wsS RX3 97 yX3_isSeenFrom wsX3_isSeenFrom) := goodIn_app (goodIn_of _ (by decide +kernel)) ggX3_addUpBlow_X3_isSeenFrom
set_option maxRecDepth 20000 in
theorem ggX3_addUpBlow_X3_sumPlace : GoodIn wsX3_addUpBlow wsX3_sumPlace := goodIn_r _ [28] (by decide +kernel) (by decide +kernel)
set_option maxRecDepth 20000 in
theorem gX3_addUpBlow_X3_sumPlace : GoodIn wsX3_addUpBlow (va_wsS RX3 101 yX3_sumPlace wsX3_sumPlace) := goodIn_app (goodIn_of _ (by decide +kernel)) ggX3_addUpBlow_X3_sumPlace
theorem dX3_addUpBlow_0 : decode cX3_addUpBlow 0 = .ok (.iconst 0, 1) := by decide +kernel
theorem dX3_addUpBlow_1 : decode cX3_addUpBlow 1 = .ok (.istore_n 3, 1) := by decide +kernel
theorem dX3_addUpBlow_2 : decode cX3_addUpBlow 2 = .ok (.aload_n 0, 1) := by decide +kernel
theorem dX3_addUpBlow_3 : decode cX3_addUpBlow 3 = .ok (.iload_n 1, 1) := by decide +kernel
theorem dX3_addUpBlow_4 : decode cX3_addUpBlow 4 = .ok (.iconst 0, 1) := by decide +kernel
theorem dX3_addUpBlow_5 : decode cX3_addUpBlow 5 = .ok (.invokevirtual 82, 3) := by decide +kernel
theorem dX3_addUpBlow_8 : decode cX3_addUpBlow 8 = .ok (.aload_n 0, 1) := by decide +kernel
theorem dX3_addUpBlow_9 : decode cX3_addUpBlow 9 = .ok (.iload_n 2, 1) := by decide +kernel
theorem dX3_addUpBlow_10 : decode cX3_addUpBlow 10 = .ok (.iconst 4, 1) := by decide +kernel
theorem dX3_addUpBlow_11 : decode cX3_addUpBlow 11 = .ok (.invokevirtual 94, 3) := by decide +kernel
theorem dX3_addUpBlow_14 : decode cX3_addUpBlow 14 = .ok (.invokestatic 97, 3) := by decide +kernel
theorem dX3_addUpBlow_17 : decode cX3_addUpBlow 17 = .ok (.ifCond .eq 53, 3) := by decide +kernel
theorem dX3_addUpBlow_20 : decode cX3_addUpBlow 20 = .ok (.aload_n 0, 1) := by decide +kernel
theorem dX3_addUpBlow_21 : decode cX3_addUpBlow 21 = .ok (.getfield 25, 3) := by decide +kernel
theorem dX3_addUpBlow_24 : decode cX3_addUpBlow 24 = .ok (.iload_n 2, 1) := by decide +kernel
theorem dX3_addUpBlow_25 : decode cX3_addUpBlow 25 = .ok (.dup2, 1) := by decide +kernel
theorem dX3_addUpBlow_26 : decode cX3_addUpBlow 26 = .ok (.iaload, 1) := by decide +kernel
theorem dX3_addUpBlow_27 : decode cX3_addUpBlow 27 = .ok (.iconst 1, 1) := by decide +kernel
theorem dX3_addUpBlow_28 : decode cX3_addUpBlow 28 = .ok (.iload_n 1, 1) := by decide +kernel
theorem dX3_addUpBlow_29 : decode cX3_addUpBlow 29 = .ok (.ishl, 1) := by decide +kernel
theorem dX3_addUpBlow_30 : decode cX3_addUpBlow 30 = .ok (.ior, 1) := by decide +kernel
theorem dX3_addUpBlow_31 : decode cX3_addUpBlow 31 = .ok (.iastore, 1) := by decide +kernel
theorem dX3_addUpBlow_32 : decode cX3_addUpBlow 32 = .ok (.aload_n 0, 1) := by decide +kernel
theorem dX3_addUpBlow_33 : decode cX3_addUpBlow 33 = .ok (.iload_n 1, 1) := by decide +kernel
theorem dX3_addUpBlow_34 : decode cX3_addUpBlow 34 = .ok (.iconst 1, 1) := by decide +kernel
theorem dX3_addUpBlow_35 : decode cX3_addUpBlow 35 = .ok (.invokevirtual 82, 3) := by decide +kernel
theorem dX3_addUpBlow_38 : decode cX3_addUpBlow 38 = .ok (.aload_n 0, 1) := by decide +kernel
theorem dX3_addUpBlow_39 : decode cX3_addUpBlow 39 = .ok (.iload_n 2, 1) := by decide +kernel
theorem dX3_addUpBlow_40 : decode cX3_addUpBlow 40 = .ok (.iconst 3, 1) := by decide +kernel
theorem dX3_addUpBlow_41 : decode cX3_addUpBlow 41 = .ok (.invokevirtual 94, 3) := by decide +kernel
theorem dX3_addUpBlow_44 : decode cX3_addUpBlow 44 = .ok (.imul, 1) := by decide +kernel
theorem dX3_addUpBlow_45 : decode cX3_addUpBlow 45 = .ok (.istore_n 3, 1) := by decide +kernel
theorem dX3_addUpBlow_46 : decode cX3_addUpBlow 46 = .ok (.aload_n 0, 1) := by decide +kernel
theorem dX3_addUpBlow_47 : decode cX3_addUpBlow 47 = .ok (.iload_n 2, 1) := by decide +kernel
theorem dX3_addUpBlow_48 : decode cX3_addUpBlow 48 = .ok (.iconst 1, 1) := by decide +kernel
theorem dX3_addUpBlow_49 : decode cX3_addUpBlow 49 = .ok (.invokevirtual 94, 3) := by decide +kernel
theorem dX3_addUpBlow_52 : decode cX3_addUpBlow 52 = .ok (.sipush 170, 3) := by decide +kernel
theorem dX3_addUpBlow_55 : decode cX3_addUpBlow 55 = .ok (.if_icmp .lt 40, 3) := by decide +kernel
theorem dX3_addUpBlow_58 : decode cX3_addUpBlow 58 = .ok (.iload_n 3, 1) := by decide +kernel
theorem dX3_addUpBlow_59 : decode cX3_addUpBlow 59 = .ok (.aload_n 0, 1) := by decide +kernel
theorem dX3_addUpBlow_60 : decode cX3_addUpBlow 60 = .ok (.iload_n 1, 1) := by decide +kernel
theorem dX3_addUpBlow_61 : decode cX3_addUpBlow 61 = .ok (.iconst 4, 1) := by decide +kernel
theorem dX3_addUpBlow_62 : decode cX3_addUpBlow 62 = .ok (.invokevirtual 82, 3) := by decide +kernel
theorem dX3_addUpBlow_65 : decode cX3_addUpBlow 65 = .ok (.imul, 1) := by decide +kernel
theorem dX3_addUpBlow_66 : decode cX3_addUpBlow 66 = .ok (.istore_n 3, 1) := by decide +kernel
theorem dX3_addUpBlow_67 : decode cX3_addUpBlow 67 = .ok (.goto 28, 3) := by decide +kernel
theorem dX3_addUpBlow_70 : decode cX3_addUpBlow 70 = .ok (.aload_n 0, 1) := by decide +kernel
theorem dX3_addUpBlow_71 : decode cX3_addUpBlow 71 = .ok (.iload_n 2, 1) := by decide +kernel
theorem dX3_addUpBlow_72 : decode cX3_addUpBlow 72 = .ok (.iconst 2, 1) := by decide +kernel
theorem dX3_addUpBlow_73 : decode cX3_addUpBlow 73 = .ok (.invokevirtual 94, 3) := by decide +kernel
theorem dX3_addUpBlow_76 : decode cX3_addUpBlow 76 = .ok (.aload_n 0, 1) := by decide +kernel
theorem dX3_addUpBlow_77 : decode cX3_addUpBlow 77 = .ok (.getfield 38, 3) := by decide +kernel
theorem dX3_addUpBlow_80 : decode cX3_addUpBlow 80 = .ok (.if_icmp .ne 15, 3) := by decide +kernel
theorem dX3_addUpBlow_83 : decode cX3_addUpBlow 83 = .ok (.aload_n 0, 1) := by decide +kernel
theorem dX3_addUpBlow_84 : decode cX3_addUpBlow 84 = .ok (.getfield 41, 3) := by decide +kernel
theorem dX3_addUpBlow_87 : decode cX3_addUpBlow 87 = .ok (.aload_n 0, 1) := by decide +kernel
theorem dX3_addUpBlow_88 : decode cX3_addUpBlow 88 = .ok (.iload_n 1, 1) := by decide +kernel
theorem dX3_addUpBlow_89 : decode cX3_addUpBlow 89 = .ok (.iconst 5, 1) := by decide +kernel
theorem dX3_addUpBlow_90 : decode cX3_addUpBlow 90 = .ok (.invokevirtual 82, 3) := by decide +kernel
theorem dX3_addUpBlow_93 : decode cX3_addUpBlow 93 = .ok (.imul, 1) := by decide +kernel
theorem dX3_addUpBlow_94 : decode cX3_addUpBlow 94 = .ok (.istore_n 3, 1) := by decide +kernel
theorem dX3_addUpBlow_95 : decode cX3_addUpBlow 95 = .ok (.aload_n 0, 1) := by decide +kernel
theorem dX3_addUpBlow_96 : decode cX3_addUpBlow 96 = .ok (.getfield 28, 3) := by decide +kernel
theorem dX3_addUpBlow_99 : decode cX3_addUpBlow 99 = .ok (.iload_n 1, 1) := by decide +kernel
theorem dX3_addUpBlow_100 : decode cX3_addUpBlow 100 = .ok (.aload_n 0, 1) := by decide +kernel
theorem dX3_addUpBlow_101 : decode cX3_addUpBlow 101 = .ok (.iload_n 2, 1) := by decide +kernel
theorem dX3_addUpBlow_102 : decode cX3_addUpBlow 102 = .ok (.iconst 0, 1) := by decide +kernel
theorem dX3_addUpBlow_103 : decode cX3_addUpBlow 103 = .ok (.invokevirtual 94, 3) := by decide +kernel
theorem dX3_addUpBlow_106 : decode cX3_addUpBlow 106 = .ok (.aload_n 0, 1) := by decide +kernel
theorem dX3_addUpBlow_107 : decode cX3_addUpBlow 107 = .ok (.iload_n 2, 1) := by decide +kernel
theorem dX3_addUpBlow_108 : decode cX3_addUpBlow 108 = .ok (.iconst 2, 1) := by decide +kernel
theorem dX3_addUpBlow_109 : decode cX3_addUpBlow 109 = .ok (.invokevirtual 94, 3) := by decide +kernel
theorem dX3_addUpBlow_112 : decode cX3_addUpBlow 112 = .ok (.invokestatic 101, 3) := by decide +kernel
theorem dX3_addUpBlow_115 : decode cX3_addUpBlow 115 = .ok (.dup2, 1) := by decide +kernel
theorem dX3_addUpBlow_116 : decode cX3_addUpBlow 116 = .ok (.iaload, 1) := by decide +kernel
theorem dX3_addUpBlow_117 : decode cX3_addUpBlow 117 = .ok (.iload_n 3, 1) := by decide +kernel
theorem dX3_addUpBlow_118 : decode cX3_addUpBlow 118 = .ok (.iadd, 1) := by decide +kernel
theorem dX3_addUpBlow_119 : decode cX3_addUpBlow 119 = .ok (.iastore, 1) := by decide +kernel
theorem dX3_addUpBlow_120 : decode cX3_addUpBlow 120 = .ok (.return_, 1) := by decide +kernel
theorem dX3_isSeenFrom_0 : decode cX3_isSeenFrom 0 = .ok (.iload_n 0, 1) := by decide +kernel
theorem dX3_isSeenFrom_1 : decode cX3_isSeenFrom 1 = .ok (.iload_n 1, 1) := by decide +kernel
theorem dX3_isSeenFrom_2 : decode cX3_isSeenFrom 2 = .ok (.isub, 1) := by decide +kernel
theorem dX3_isSeenFrom_3 : decode cX3_isSeenFrom 3 = .ok (.invokestatic 104, 3) := by decide +kernel
theorem dX3_isSeenFrom_6 : decode cX3_isSeenFrom 6 = .ok (.istore_n 2, 1) := by decide +kernel
theorem dX3_isSeenFrom_7 : decode cX3_isSeenFrom 7 = .ok (.iload_n 2, 1) := by decide +kernel
theorem dX3_isSeenFrom_8 : decode cX3_isSeenFrom 8 = .ok (.bipush 12, 2) := by decide +kernel
theorem dX3_isSeenFrom_10 : decode cX3_isSeenFrom 10 = .ok (.iload_n 2, 1) := by decide +kernel
theorem dX3_isSeenFrom_11 : decode cX3_isSeenFrom 11 = .ok (.isub, 1) := by decide +kernel
theorem dX3_isSeenFrom_12 : decode cX3_isSeenFrom 12 = .ok (.invokestatic 110, 3) := by decide +kernel
theorem dX3_isSeenFrom_15 : decode cX3_isSeenFrom 15 = .ok (.iconst 4, 1) := by decide +kernel
theorem dX3_isSeenFrom_16 : decode cX3_isSeenFrom 16 = .ok (.if_icmp .gt 7, 3) := by decide +kernel
theorem dX3_isSeenFrom_19 : decode cX3_isSeenFrom 19 = .ok (.iconst 1, 1) := by decide +kernel
theorem dX3_isSeenFrom_20 : decode cX3_isSeenFrom 20 = .ok (.goto 4, 3) := by decide +kernel
theorem dX3_isSeenFrom_23 : decode cX3_isSeenFrom 23 = .ok (.iconst 0, 1) := by decide +kernel
theorem dX3_isSeenFrom_24 : decode cX3_isSeenFrom 24 = .ok (.ireturn, 1) := by decide +kernel
theorem dX3_sumPlace_0 : decode cX3_sumPlace 0 = .ok (.iload_n 0, 1) := by decide +kernel
theorem dX3_sumPlace_1 : decode cX3_sumPlace 1 = .ok (.bipush 12, 2) := by decide +kernel
theorem dX3_sumPlace_3 : decode cX3_sumPlace 3 = .ok (.imul, 1) := by decide +kernel
theorem dX3_sumPlace_4 : decode cX3_sumPlace 4 = .ok (.iload_n 1, 1) := by decide +kernel
theorem dX3_sumPlace_5 : decode cX3_sumPlace 5 = .ok (.iadd, 1) := by decide +kernel
theorem dX3_sumPlace_6 : decode cX3_sumPlace 6 = .ok (.iconst 2, 1) := by decide +kernel
theorem dX3_sumPlace_7 : decode cX3_sumPlace 7 = .ok (.imul, 1) := by decide +kernel
theorem dX3_sumPlace_8 : decode cX3_sumPlace 8 = .ok (.iload_n 2, 1) := by decide +kernel
theorem dX3_sumPlace_9 : decode cX3_sumPlace 9 = .ok (.iadd, 1) := by decide +kernel
theorem dX3_sumPlace_10 : decode cX3_sumPlace 10 = .ok (.ireturn, 1) := by decide +kernel
theorem dX3_blowPart_0 : decode cX3_blowPart 0 = .ok (.aload_n 0, 1) := by decide +kernel
theorem dX3_blowPart_1 : decode cX3_blowPart 1 = .ok (.getfield 9, 3) := by decide +kernel
theorem dX3_blowPart_4 : decode cX3_blowPart 4 = .ok (.iload_n 1, 1) := by decide +kernel
theorem dX3_blowPart_5 : decode cX3_blowPart 5 = .ok (.iconst 5, 1) := by decide +kernel
theorem dX3_blowPart_6 : decode cX3_blowPart 6 = .ok (.imul, 1) := by decide +kernel
theorem dX3_blowPart_7 : decode cX3_blowPart 7 = .ok (.iload_n 2, 1) := by decide +kernel
theorem dX3_blowPart_8 : decode cX3_blowPart 8 = .ok (.iadd, 1) := by decide +kernel
theorem dX3_blowPart_9 : decode cX3_blowPart 9 = .ok (.iaload, 1) := by decide +kernel
theorem dX3_blowPart_10 : decode cX3_blowPart 10 = .ok (.ireturn, 1) := by decide +kernel
theorem dX3_judgePart_0 : decode cX3_judgePart 0 = .ok (.aload_n 0, 1) := by decide +kernel
theorem dX3_judgePart_1 : decode cX3_judgePart 1 = .ok (.getfield 13, 3) := by decide +kernel
theorem dX3_judgePart_4 : decode cX3_judgePart 4 = .ok (.iload_n 1, 1) := by decide +kernel
theorem dX3_judgePart_5 : decode cX3_judgePart 5 = .ok (.bipush 7, 2) := by decide +kernel
theorem dX3_judgePart_7 : decode cX3_judgePart 7 = .ok (.imul, 1) := by decide +kernel
theorem dX3_judgePart_8 : decode cX3_judgePart 8 = .ok (.iload_n 2, 1) := by decide +kernel
theorem dX3_judgePart_9 : decode cX3_judgePart 9 = .ok (.iadd, 1) := by decide +kernel
theorem dX3_judgePart_10 : decode cX3_judgePart 10 = .ok (.iaload, 1) := by decide +kernel
theorem dX3_judgePart_11 : decode cX3_judgePart 11 = .ok (.ireturn, 1) := by decide +kernel
theorem dX3_isSeen_0 : decode cX3_isSeen 0 = .ok (.aload_n 0, 1) := by decide +kernel
theorem dX3_isSeen_1 : decode cX3_isSeen 1 = .ok (.getfield 25, 3) := by decide +kernel
theorem dX3_isSeen_4 : decode cX3_isSeen 4 = .ok (.iload_n 2, 1) := by decide +kernel
theorem dX3_isSeen_5 : decode cX3_isSeen 5 = .ok (.iaload, 1) := by decide +kernel
theorem dX3_isSeen_6 : decode cX3_isSeen 6 = .ok (.iload_n 1, 1) := by decide +kernel
theorem dX3_isSeen_7 : decode cX3_isSeen 7 = .ok (.ishr, 1) := by decide +kernel
theorem dX3_isSeen_8 : decode cX3_isSeen 8 = .ok (.iconst 1, 1) := by decide +kernel
theorem dX3_isSeen_9 : decode cX3_isSeen 9 = .ok (.iand, 1) := by decide +kernel
theorem dX3_isSeen_10 : decode cX3_isSeen 10 = .ok (.iconst 1, 1) := by decide +kernel
theorem dX3_isSeen_11 : decode cX3_isSeen 11 = .ok (.if_icmp .ne 7, 3) := by decide +kernel
theorem dX3_isSeen_14 : decode cX3_isSeen 14 = .ok (.iconst 1, 1) := by decide +kernel
theorem dX3_isSeen_15 : decode cX3_isSeen 15 = .ok (.goto 4, 3) := by decide +kernel
theorem dX3_isSeen_18 : decode cX3_isSeen 18 = .ok (.iconst 0, 1) := by decide +kernel
theorem dX3_isSeen_19 : decode cX3_isSeen 19 = .ok (.ireturn, 1) := by decide +kernel
set_option maxRecDepth 20000 in
theorem ggX3_isInRounds_X3_blowPart : GoodIn wsX3_isInRounds wsX3_blowPart := goodIn_r _ [6, 7, 8, 9, 10, 11, 12, 13, 14, 15, 16, 17, 18, 19, 20] (by decide +kernel) (by decide +kernel)
set_option maxRecDepth 20000 in
theorem gX3_isInRounds_X3_blowPart : GoodIn wsX3_isInRounds (wsV RX3 94 RX3 yX3_blowPart wsX3_blowPart) := goodIn_app (goodIn_of _ (by decide +kernel)) ggX3_isInRounds_X3_blowPart
theorem dX3_isInRounds_0 : decode cX3_isInRounds 0 = .ok (.aload_n 0, 1) := by decide +kernel
theorem dX3_isInRounds_1 : decode cX3_isInRounds 1 = .ok (.iload_n 1, 1) := by decide +kernel
theorem dX3_isInRounds_2 : decode cX3_isInRounds 2 = .ok (.iconst 0, 1) := by decide +kernel
theorem dX3_isInRounds_3 : decode cX3_isInRounds 3 = .ok (.invokevirtual 94, 3) := by decide +kernel
theorem dX3_isInRounds_6 : decode cX3_isInRounds 6 = .ok (.aload_n 0, 1) := by decide +kernel
theorem dX3_isInRounds_7 : decode cX3_isInRounds 7 = .ok (.getfield 34, 3) := by decide +kernel
theorem dX3_isInRounds_10 : decode cX3_isInRounds 10 = .ok (.if_icmp .ge 7, 3) := by decide +kernel
theorem dX3_isInRounds_13 : decode cX3_isInRounds 13 = .ok (.iconst 1, 1) := by decide +kernel
theorem dX3_isInRounds_14 : decode cX3_isInRounds 14 = .ok (.goto 4, 3) := by decide +kernel
theorem dX3_isInRounds_17 : decode cX3_isInRounds 17 = .ok (.iconst 0, 1) := by decide +kernel
theorem dX3_isInRounds_18 : decode cX3_isInRounds 18 = .ok (.ireturn, 1) := by decide +kernel
set_option maxRecDepth 20000 in
theorem ggX3_sumOf_X3_sumPlace : GoodIn wsX3_sumOf wsX3_sumPlace := goodIn_r _ [5] (by decide +kernel) (by decide +kernel)
set_option maxRecDepth 20000 in
theorem gX3_sumOf_X3_sumPlace : GoodIn wsX3_sumOf (va_wsS RX3 101 yX3_sumPlace wsX3_sumPlace) := goodIn_app (goodIn_of _ (by decide +kernel)) ggX3_sumOf_X3_sumPlace
theorem dX3_sumOf_0 : decode cX3_sumOf 0 = .ok (.aload_n 0, 1) := by decide +kernel
theorem dX3_sumOf_1 : decode cX3_sumOf 1 = .ok (.getfield 28, 3) := by decide +kernel
theorem dX3_sumOf_4 : decode cX3_sumOf 4 = .ok (.iload_n 1, 1) := by decide +kernel
theorem dX3_sumOf_5 : decode cX3_sumOf 5 = .ok (.iload_n 2, 1) := by decide +kernel
theorem dX3_sumOf_6 : decode cX3_sumOf 6 = .ok (.iload_n 3, 1) := by decide +kernel
theorem dX3_sumOf_7 : decode cX3_sumOf 7 = .ok (.invokestatic 101, 3) := by decide +kernel
theorem dX3_sumOf_10 : decode cX3_sumOf 10 = .ok (.iaload, 1) := by decide +kernel
theorem dX3_sumOf_11 : decode cX3_sumOf 11 = .ok (.ireturn, 1) := by decide +kernel
theorem dX3_leadOf_0 : decode cX3_leadOf 0 = .ok (.aload_n 0, 1) := by decide +kernel
theorem dX3_leadOf_1 : decode cX3_leadOf 1 = .ok (.getfield 31, 3) := by decide +kernel
theorem dX3_leadOf_4 : decode cX3_leadOf 4 = .ok (.iload_n 1, 1) := by decide +kernel
theorem dX3_leadOf_5 : decode cX3_leadOf 5 = .ok (.bipush 12, 2) := by decide +kernel
theorem dX3_leadOf_7 : decode cX3_leadOf 7 = .ok (.imul, 1) := by decide +kernel
theorem dX3_leadOf_8 : decode cX3_leadOf 8 = .ok (.iload_n 2, 1) := by decide +kernel
theorem dX3_leadOf_9 : decode cX3_leadOf 9 = .ok (.iadd, 1) := by decide +kernel
theorem dX3_leadOf_10 : decode cX3_leadOf 10 = .ok (.iaload, 1) := by decide +kernel
theorem dX3_leadOf_11 : decode cX3_leadOf 11 = .ok (.ireturn, 1) := by decide +kernel
set_option maxRecDepth 20000 in
theorem ggX3_isClose_X3_leadOf : GoodIn wsX3_isClose wsX3_leadOf := goodIn_r _ [9, 10, 16, 17, 18, 19, 20, 21, 22, 23, 24, 25, 26, 27, 28] (by decide +kernel) (by decide +kernel)
set_option maxRecDepth 20000 in
theorem gX3_isClose_X3_leadOf : GoodIn wsX3_isClose (wsV RX3 113 RX3 yX3_leadOf wsX3_leadOf) := goodIn_app (goodIn_of _ (by decide +kernel)) ggX3_isClose_X3_leadOf
set_option maxRecDepth 20000 in
theorem ggX3_isClose_X3_judgePart : GoodIn wsX3_isClose wsX3_judgePart := goodIn_r _ [14, 15, 16, 17, 18, 19, 20, 21, 22, 23, 24, 25, 26, 27, 28] (by decide +kernel) (by decide +kernel)
set_option maxRecDepth 20000 in
theorem gX3_isClose_X3_judgePart : GoodIn wsX3_isClose (wsV RX3 82 RX3 yX3_judgePart wsX3_judgePart) := goodIn_app (goodIn_of _ (by decide +kernel)) ggX3_isClose_X3_judgePart
theorem dX3_isClose_0 : decode cX3_isClose 0 = .ok (.aload_n 0, 1) := by decide +kernel
theorem dX3_isClose_1 : decode cX3_isClose 1 = .ok (.iload_n 1, 1) := by decide +kernel
theorem dX3_isClose_2 : decode cX3_isClose 2 = .ok (.iload_n 2, 1) := by decide +kernel
theorem dX3_isClose_3 : decode cX3_isClose 3 = .ok (.invokevirtual 113, 3) := by decide +kernel
theorem dX3_isClose_6 : decode cX3_isClose 6 = .ok (.invokestatic 104, 3) := by decide +kernel
theorem dX3_isClose_9 : decode cX3_isClose 9 = .ok (.aload_n 0, 1) := by decide +kernel
theorem dX3_isClose_10 : decode cX3_isClose 10 = .ok (.iload_n 1, 1) := by decide +kernel
theorem dX3_isClose_11 : decode cX3_isClose 11 = .ok (.bipush 6, 2) := by decide +kernel
theorem dX3_isClose_13 : decode cX3_isClose 13 = .ok (.invokevirtual 82, 3) := by decide +kernel
theorem dX3_isClose_16 : decode cX3_isClose 16 = .ok (.if_icmp .gt 7, 3) := by decide +kernel
theorem dX3_isClose_19 : decode cX3_isClose 19 = .ok (.iconst 1, 1) := by decide +kernel
theorem dX3_isClose_20 : decode cX3_isClose 20 = .ok (.goto 4, 3) := by decide +kernel
theorem dX3_isClose_23 : decode cX3_isClose 23 = .ok (.iconst 0, 1) := by decide +kernel
theorem dX3_isClose_24 : decode cX3_isClose 24 = .ok (.ireturn, 1) := by decide +kernel
theorem dX3_downsFor_0 : decode cX3_downsFor 0 = .ok (.aload_n 0, 1) := by decide +kernel
theorem dX3_downsFor_1 : decode cX3_downsFor 1 = .ok (.getfield 19, 3) := by decide +kernel
theorem dX3_downsFor_4 : decode cX3_downsFor 4 = .ok (.iload_n 1, 1) := by decide +kernel
theorem dX3_downsFor_5 : decode cX3_downsFor 5 = .ok (.iconst 2, 1) := by decide +kernel
theorem dX3_downsFor_6 : decode cX3_downsFor 6 = .ok (.imul, 1) := by decide +kernel
theorem dX3_downsFor_7 : decode cX3_downsFor 7 = .ok (.iconst 1, 1) := by decide +kernel
theorem dX3_downsFor_8 : decode cX3_downsFor 8 = .ok (.iadd, 1) := by decide +kernel
theorem dX3_downsFor_9 : decode cX3_downsFor 9 = .ok (.iaload, 1) := by decide +kernel
theorem dX3_downsFor_10 : decode cX3_downsFor 10 = .ok (.aload_n 0, 1) := by decide +kernel
theorem dX3_downsFor_11 : decode cX3_downsFor 11 = .ok (.getfield 19, 3) := by decide +kernel
theorem dX3_downsFor_14 : decode cX3_downsFor 14 = .ok (.iload_n 1, 1) := by decide +kernel
theorem dX3_downsFor_15 : decode cX3_downsFor 15 = .ok (.iconst 2, 1) := by decide +kernel
theorem dX3_downsFor_16 : decode cX3_downsFor 16 = .ok (.imul, 1) := by decide +kernel
theorem dX3_downsFor_17 : decode cX3_downsFor 17 = .ok (.iaload, 1) := by decide +kernel
theorem dX3_downsFor_18 : decode cX3_downsFor 18 = .ok (.isub, 1) := by decide +kernel
theorem dX3_downsFor_19 : decode cX3_downsFor 19 = .ok (.ireturn, 1) := by decide +kernel
theorem dX3_takenOf_0 : decode cX3_takenOf 0 = .ok (.iconst 0, 1) := by decide +kernel
theorem dX3_takenOf_1 : decode cX3_takenOf 1 = .ok (.istore_n 2, 1) := by decide +kernel
theorem dX3_takenOf_2 : decode cX3_takenOf 2 = .ok (.iconst 0, 1) := by decide +kernel
theorem dX3_takenOf_3 : decode cX3_takenOf 3 = .ok (.istore_n 3, 1) := by decide +kernel
theorem dX3_takenOf_4 : decode cX3_takenOf 4 = .ok (.iload_n 3, 1) := by decide +kernel
theorem dX3_takenOf_5 : decode cX3_takenOf 5 = .ok (.aload_n 0, 1) := by decide +kernel
theorem dX3_takenOf_6 : decode cX3_takenOf 6 = .ok (.getfield 34, 3) := by decide +kernel
theorem dX3_takenOf_9 : decode cX3_takenOf 9 = .ok (.if_icmp .ge 22, 3) := by decide +kernel
theorem dX3_takenOf_12 : decode cX3_takenOf 12 = .ok (.iload_n 2, 1) := by decide +kernel
theorem dX3_takenOf_13 : decode cX3_takenOf 13 = .ok (.aload_n 0, 1) := by decide +kernel
theorem dX3_takenOf_14 : decode cX3_takenOf 14 = .ok (.getfield 22, 3) := by decide +kernel
theorem dX3_takenOf_17 : decode cX3_takenOf 17 = .ok (.iload_n 3, 1) := by decide +kernel
theorem dX3_takenOf_18 : decode cX3_takenOf 18 = .ok (.iconst 2, 1) := by decide +kernel
theorem dX3_takenOf_19 : decode cX3_takenOf 19 = .ok (.imul, 1) := by decide +kernel
theorem dX3_takenOf_20 : decode cX3_takenOf 20 = .ok (.iload_n 1, 1) := by decide +kernel
theorem dX3_takenOf_21 : decode cX3_takenOf 21 = .ok (.iadd, 1) := by decide +kernel
theorem dX3_takenOf_22 : decode cX3_takenOf 22 = .ok (.iaload, 1) := by decide +kernel
theorem dX3_takenOf_23 : decode cX3_takenOf 23 = .ok (.iadd, 1) := by decide +kernel
theorem dX3_takenOf_24 : decode cX3_takenOf 24 = .ok (.istore_n 2, 1) := by decide +kernel
theorem dX3_takenOf_25 : decode cX3_takenOf 25 = .ok (.iinc 3 1, 3) := by decide +kernel
theorem dX3_takenOf_28 : decode cX3_takenOf 28 = .ok (.goto (-24), 3) := by decide +kernel
theorem dX3_takenOf_31 : decode cX3_takenOf 31 = .ok (.iload_n 2, 1) := by decide +kernel
theorem dX3_takenOf_32 : decode cX3_takenOf 32 = .ok (.ireturn, 1) := by decide +kernel
set_option maxRecDepth 20000 in
theorem ggX3_hardnessFor_X3_isInRounds : GoodIn wsX3_hardnessFor wsX3_isInRounds := goodIn_r _ [6, 7, 8, 9, 10, 5, 11, 12, 13, 14, 15, 16, 17, 18, 19, 20, 21, 22, 23, 24, 25] (by decide +kernel) (by decide +kernel)
set_option maxRecDepth 20000 in
theorem gX3_hardnessFor_X3_isInRounds : GoodIn wsX3_hardnessFor (wsV RX3 116 RX3 yX3_isInRounds wsX3_isInRounds) := goodIn_app (goodIn_of _ (by decide +kernel)) ggX3_hardnessFor_X3_isInRounds
set_option maxRecDepth 20000 in
theorem ggX3_hardnessFor_X3_blowPart : GoodIn wsX3_hardnessFor wsX3_blowPart := goodIn_r _ [11, 12, 13, 14, 15, 16, 17, 18, 19, 20, 21, 22, 23, 24, 25] (by decide +kernel) (by decide +kernel)
set_option maxRecDepth 20000 in
theorem gX3_hardnessFor_X3_blowPart : GoodIn wsX3_hardnessFor (wsV RX3 94 RX3 yX3_blowPart wsX3_blowPart) := goodIn_app (goodIn_of _ (by decide +kernel)) ggX3_hardnessFor_X3_blowPart
theorem dX3_hardnessFor_0 : decode cX3_hardnessFor 0 = .ok (.iconst 0, 1) := by decide +kernel
theorem dX3_hardnessFor_1 : decode cX3_hardnessFor 1 = .ok (.istore_n 1, 1) := by decide +kernel
theorem dX3_hardnessFor_2 : decode cX3_hardnessFor 2 = .ok (.iconst 0, 1) := by decide +kernel
theorem dX3_hardnessFor_3 : decode cX3_hardnessFor 3 = .ok (.istore_n 2, 1) := by decide +kernel
theorem dX3_hardnessFor_4 : decode cX3_hardnessFor 4 = .ok (.iload_n 2, 1) := by decide +kernel
theorem dX3_hardnessFor_5 : decode cX3_hardnessFor 5 = .ok (.aload_n 0, 1) := by decide +kernel
theorem dX3_hardnessFor_6 : decode cX3_hardnessFor 6 = .ok (.getfield 44, 3) := by decide +kernel
theorem dX3_hardnessFor_9 : decode cX3_hardnessFor 9 = .ok (.if_icmp .ge 45, 3) := by decide +kernel
theorem dX3_hardnessFor_12 : decode cX3_hardnessFor 12 = .ok (.aload_n 0, 1) := by decide +kernel
theorem dX3_hardnessFor_13 : decode cX3_hardnessFor 13 = .ok (.iload_n 2, 1) := by decide +kernel
theorem dX3_hardnessFor_14 : decode cX3_hardnessFor 14 = .ok (.invokevirtual 116, 3) := by decide +kernel
theorem dX3_hardnessFor_17 : decode cX3_hardnessFor 17 = .ok (.ifCond .eq 31, 3) := by decide +kernel
theorem dX3_hardnessFor_20 : decode cX3_hardnessFor 20 = .ok (.iload_n 1, 1) := by decide +kernel
theorem dX3_hardnessFor_21 : decode cX3_hardnessFor 21 = .ok (.aload_n 0, 1) := by decide +kernel
theorem dX3_hardnessFor_22 : decode cX3_hardnessFor 22 = .ok (.iload_n 2, 1) := by decide +kernel
theorem dX3_hardnessFor_23 : decode cX3_hardnessFor 23 = .ok (.iconst 2, 1) := by decide +kernel
theorem dX3_hardnessFor_24 : decode cX3_hardnessFor 24 = .ok (.invokevirtual 94, 3) := by decide +kernel
theorem dX3_hardnessFor_27 : decode cX3_hardnessFor 27 = .ok (.ifCond .ne 12, 3) := by decide +kernel
theorem dX3_hardnessFor_30 : decode cX3_hardnessFor 30 = .ok (.aload_n 0, 1) := by decide +kernel
theorem dX3_hardnessFor_31 : decode cX3_hardnessFor 31 = .ok (.iload_n 2, 1) := by decide +kernel
theorem dX3_hardnessFor_32 : decode cX3_hardnessFor 32 = .ok (.iconst 3, 1) := by decide +kernel
theorem dX3_hardnessFor_33 : decode cX3_hardnessFor 33 = .ok (.invokevirtual 94, 3) := by decide +kernel
theorem dX3_hardnessFor_36 : decode cX3_hardnessFor 36 = .ok (.goto 10, 3) := by decide +kernel
theorem dX3_hardnessFor_39 : decode cX3_hardnessFor 39 = .ok (.aload_n 0, 1) := by decide +kernel
theorem dX3_hardnessFor_40 : decode cX3_hardnessFor 40 = .ok (.iload_n 2, 1) := by decide +kernel
theorem dX3_hardnessFor_41 : decode cX3_hardnessFor 41 = .ok (.iconst 3, 1) := by decide +kernel
theorem dX3_hardnessFor_42 : decode cX3_hardnessFor 42 = .ok (.invokevirtual 94, 3) := by decide +kernel
theorem dX3_hardnessFor_45 : decode cX3_hardnessFor 45 = .ok (.ineg, 1) := by decide +kernel
theorem dX3_hardnessFor_46 : decode cX3_hardnessFor 46 = .ok (.iadd, 1) := by decide +kernel
theorem dX3_hardnessFor_47 : decode cX3_hardnessFor 47 = .ok (.istore_n 1, 1) := by decide +kernel
theorem dX3_hardnessFor_48 : decode cX3_hardnessFor 48 = .ok (.iinc 2 1, 3) := by decide +kernel
theorem dX3_hardnessFor_51 : decode cX3_hardnessFor 51 = .ok (.goto (-47), 3) := by decide +kernel
theorem dX3_hardnessFor_54 : decode cX3_hardnessFor 54 = .ok (.iload_n 1, 1) := by decide +kernel
theorem dX3_hardnessFor_55 : decode cX3_hardnessFor 55 = .ok (.ireturn, 1) := by decide +kernel
theorem dX4_init_0 : decode cX4_init 0 = .ok (.aload_n 0, 1) := by decide +kernel
theorem dX4_init_1 : decode cX4_init 1 = .ok (.invokespecial 3, 3) := by decide +kernel
theorem dX4_init_4 : decode cX4_init 4 = .ok (.aload_n 0, 1) := by decide +kernel
theorem dX4_init_5 : decode cX4_init 5 = .ok (.bipush 49, 2) := by decide +kernel
theorem dX4_init_7 : decode cX4_init 7 = .ok (.newarray .int, 2) := by decide +kernel
theorem dX4_init_9 : decode cX4_init 9 = .ok (.putfield 9, 3) := by decide +kernel
theorem dX4_init_12 : decode cX4_init 12 = .ok (.aload_n 0, 1) := by decide +kernel
theorem dX4_init_13 : decode cX4_init 13 = .ok (.bipush 49, 2) := by decide +kernel
theorem dX4_init_15 : decode cX4_init 15 = .ok (.newarray .int, 2) := by decide +kernel
theorem dX4_init_17 : decode cX4_init 17 = .ok (.putfield 13, 3) := by decide +kernel
theorem dX4_init_20 : decode cX4_init 20 = .ok (.aload_n 0, 1) := by decide +kernel
theorem dX4_init_21 : decode cX4_init 21 = .ok (.iconst 0, 1) := by decide +kernel
theorem dX4_init_22 : decode cX4_init 22 = .ok (.putfield 16, 3) := by decide +kernel
theorem dX4_init_25 : decode cX4_init 25 = .ok (.aload_n 0, 1) := by decide +kernel
theorem dX4_init_26 : decode cX4_init 26 = .ok (.iconst 0, 1) := by decide +kernel
theorem dX4_init_27 : decode cX4_init 27 = .ok (.putfield 20, 3) := by decide +kernel
theorem dX4_init_30 : decode cX4_init 30 = .ok (.aload_n 0, 1) := by decide +kernel
theorem dX4_init_31 : decode cX4_init 31 = .ok (.iconst 0, 1) := by decide +kernel
theorem dX4_init_32 : decode cX4_init 32 = .ok (.putfield 23, 3) := by decide +kernel
theorem dX4_init_35 : decode cX4_init 35 = .ok (.aload_n 0, 1) := by decide +kernel
theorem dX4_init_36 : decode cX4_init 36 = .ok (.aload_n 1, 1) := by decide +kernel
theorem dX4_init_37 : decode cX4_init 37 = .ok (.putfield 26, 3) := by decide +kernel
theorem dX4_init_40 : decode cX4_init 40 = .ok (.return_, 1) := by decide +kernel
theorem dX4_result_0 : decode cX4_result 0 = .ok (.iload_n 1, 1) := by decide +kernel
theorem dX4_result_1 : decode cX4_result 1 = .ok (.ifCond .ne 8, 3) := by decide +kernel
theorem dX4_result_4 : decode cX4_result 4 = .ok (.aload_n 0, 1) := by decide +kernel
theorem dX4_result_5 : decode cX4_result 5 = .ok (.getfield 16, 3) := by decide +kernel
theorem dX4_result_8 : decode cX4_result 8 = .ok (.ireturn, 1) := by decide +kernel
theorem dX4_result_9 : decode cX4_result 9 = .ok (.iload_n 1, 1) := by decide +kernel
theorem dX4_result_10 : decode cX4_result 10 = .ok (.iconst 1, 1) := by decide +kernel
theorem dX4_result_11 : decode cX4_result 11 = .ok (.if_icmp .ne 10, 3) := by decide +kernel
theorem dX4_result_14 : decode cX4_result 14 = .ok (.aload_n 0, 1) := by decide +kernel
theorem dX4_result_15 : decode cX4_result 15 = .ok (.getfield 20, 3) := by decide +kernel
theorem dX4_result_18 : decode cX4_result 18 = .ok (.goto 7, 3) := by decide +kernel
theorem dX4_result_21 : decode cX4_result 21 = .ok (.aload_n 0, 1) := by decide +kernel
theorem dX4_result_22 : decode cX4_result 22 = .ok (.getfield 23, 3) := by decide +kernel
theorem dX4_result_25 : decode cX4_result 25 = .ok (.ireturn, 1) := by decide +kernel
set_option maxRecDepth 20000 in
theorem ggX4_playOpen_X4_setEnds : GoodIn wsX4_playOpen wsX4_setEnds := goodIn_r _ [8, 1, 9, 10, 43, 44, 45, 46, 47, 48] (by decide +kernel) (by decide +kernel)
set_option maxRecDepth 20000 in
theorem gX4_playOpen_X4_setEnds : GoodIn wsX4_playOpen (wsV RX4 30 RX4 yX4_setEnds wsX4_setEnds) := goodIn_app (goodIn_of _ (by decide +kernel)) ggX4_playOpen_X4_setEnds
set_option maxRecDepth 20000 in
theorem ggX4_playOpen_X4_chooseOpen : GoodIn wsX4_playOpen wsX4_chooseOpen := goodIn_r _ [14, 15, 3, 16, 17, 18, 19, 20, 21, 22, 23, 24, 7, 25, 26, 27, 28, 29, 30, 31, 32, 33, 34, 35, 36, 37, 38, 43, 44, 45, 46, 47, 48, 49, 50, 51] (by decide +kernel) (by decide +kernel)
set_option maxRecDepth 20000 in
theorem gX4_playOpen_X4_chooseOpen : GoodIn wsX4_playOpen (wsV RX4 34 RX4 yX4_chooseOpen wsX4_chooseOpen) := goodIn_app (goodIn_of _ (by decide +kernel)) ggX4_playOpen_X4_chooseOpen
set_option maxRecDepth 20000 in
theorem ggX4_playOpen_X4_stepBack : GoodIn wsX4_playOpen wsX4_stepBack := goodIn_r _ [42, 1, 2, 43, 44, 45, 46, 47, 48] (by decide +kernel) (by decide +kernel)
set_option maxRecDepth 20000 in
theorem gX4_playOpen_X4_stepBack : GoodIn wsX4_playOpen (wsV RX4 37 RX4 yX4_stepBack wsX4_stepBack) := goodIn_app (goodIn_of _ (by decide +kernel)) ggX4_playOpen_X4_stepBack
theorem dX4_playOpen_0 : decode cX4_playOpen 0 = .ok (.aload_n 0, 1) := by decide +kernel
theorem dX4_playOpen_1 : decode cX4_playOpen 1 = .ok (.iload_n 1, 1) := by decide +kernel
theorem dX4_playOpen_2 : decode cX4_playOpen 2 = .ok (.iload_n 2, 1) := by decide +kernel
theorem dX4_playOpen_3 : decode cX4_playOpen 3 = .ok (.invokevirtual 30, 3) := by decide +kernel
theorem dX4_playOpen_6 : decode cX4_playOpen 6 = .ok (.iload_n 1, 1) := by decide +kernel
theorem dX4_playOpen_7 : decode cX4_playOpen 7 = .ok (.iconst 1, 1) := by decide +kernel
theorem dX4_playOpen_8 : decode cX4_playOpen 8 = .ok (.isub, 1) := by decide +kernel
theorem dX4_playOpen_9 : decode cX4_playOpen 9 = .ok (.istore_n 3, 1) := by decide +kernel
theorem dX4_playOpen_10 : decode cX4_playOpen 10 = .ok (.iload_n 3, 1) := by decide +kernel
theorem dX4_playOpen_11 : decode cX4_playOpen 11 = .ok (.ifCond .lt 71, 3) := by decide +kernel
theorem dX4_playOpen_14 : decode cX4_playOpen 14 = .ok (.bipush 24, 2) := by decide +kernel
theorem dX4_playOpen_16 : decode cX4_playOpen 16 = .ok (.iload_n 2, 1) := by decide +kernel
theorem dX4_playOpen_17 : decode cX4_playOpen 17 = .ok (.iadd, 1) := by decide +kernel
theorem dX4_playOpen_18 : decode cX4_playOpen 18 = .ok (.iload_n 3, 1) := by decide +kernel
theorem dX4_playOpen_19 : decode cX4_playOpen 19 = .ok (.isub, 1) := by decide +kernel
theorem dX4_playOpen_20 : decode cX4_playOpen 20 = .ok (.istore 4, 2) := by decide +kernel
theorem dX4_playOpen_22 : decode cX4_playOpen 22 = .ok (.iload 4, 2) := by decide +kernel
theorem dX4_playOpen_24 : decode cX4_playOpen 24 = .ok (.bipush 24, 2) := by decide +kernel
theorem dX4_playOpen_26 : decode cX4_playOpen 26 = .ok (.iload_n 2, 1) := by decide +kernel
theorem dX4_playOpen_27 : decode cX4_playOpen 27 = .ok (.iadd, 1) := by decide +kernel
theorem dX4_playOpen_28 : decode cX4_playOpen 28 = .ok (.iload_n 3, 1) := by decide +kernel
theorem dX4_playOpen_29 : decode cX4_playOpen 29 = .ok (.iadd, 1) := by decide +kernel
theorem dX4_playOpen_30 : decode cX4_playOpen 30 = .ok (.if_icmp .gt 42, 3) := by decide +kernel
theorem dX4_playOpen_33 : decode cX4_playOpen 33 = .ok (.aload_n 0, 1) := by decide +kernel
theorem dX4_playOpen_34 : decode cX4_playOpen 34 = .ok (.aload_n 0, 1) := by decide +kernel
theorem dX4_playOpen_35 : decode cX4_playOpen 35 = .ok (.getfield 9, 3) := by decide +kernel
theorem dX4_playOpen_38 : decode cX4_playOpen 38 = .ok (.iload 4, 2) := by decide +kernel
theorem dX4_playOpen_40 : decode cX4_playOpen 40 = .ok (.iconst 1, 1) := by decide +kernel
theorem dX4_playOpen_41 : decode cX4_playOpen 41 = .ok (.iadd, 1) := by decide +kernel
theorem dX4_playOpen_42 : decode cX4_playOpen 42 = .ok (.iaload, 1) := by decide +kernel
theorem dX4_playOpen_43 : decode cX4_playOpen 43 = .ok (.aload_n 0, 1) := by decide +kernel
theorem dX4_playOpen_44 : decode cX4_playOpen 44 = .ok (.getfield 9, 3) := by decide +kernel
theorem dX4_playOpen_47 : decode cX4_playOpen 47 = .ok (.iload 4, 2) := by decide +kernel
theorem dX4_playOpen_49 : decode cX4_playOpen 49 = .ok (.iconst 1, 1) := by decide +kernel
theorem dX4_playOpen_50 : decode cX4_playOpen 50 = .ok (.isub, 1) := by decide +kernel
theorem dX4_playOpen_51 : decode cX4_playOpen 51 = .ok (.iaload, 1) := by decide +kernel
theorem dX4_playOpen_52 : decode cX4_playOpen 52 = .ok (.invokevirtual 34, 3) := by decide +kernel
theorem dX4_playOpen_55 : decode cX4_playOpen 55 = .ok (.aload_n 0, 1) := by decide +kernel
theorem dX4_playOpen_56 : decode cX4_playOpen 56 = .ok (.getfield 13, 3) := by decide +kernel
theorem dX4_playOpen_59 : decode cX4_playOpen 59 = .ok (.iload 4, 2) := by decide +kernel
theorem dX4_playOpen_61 : decode cX4_playOpen 61 = .ok (.aload_n 0, 1) := by decide +kernel
theorem dX4_playOpen_62 : decode cX4_playOpen 62 = .ok (.getfield 16, 3) := by decide +kernel
theorem dX4_playOpen_65 : decode cX4_playOpen 65 = .ok (.iastore, 1) := by decide +kernel
theorem dX4_playOpen_66 : decode cX4_playOpen 66 = .ok (.iinc 4 1, 3) := by decide +kernel
theorem dX4_playOpen_69 : decode cX4_playOpen 69 = .ok (.goto (-47), 3) := by decide +kernel
theorem dX4_playOpen_72 : decode cX4_playOpen 72 = .ok (.aload_n 0, 1) := by decide +kernel
theorem dX4_playOpen_73 : decode cX4_playOpen 73 = .ok (.invokevirtual 37, 3) := by decide +kernel
theorem dX4_playOpen_76 : decode cX4_playOpen 76 = .ok (.iinc 3 (-1), 3) := by decide +kernel
theorem dX4_playOpen_79 : decode cX4_playOpen 79 = .ok (.goto (-69), 3) := by decide +kernel
theorem dX4_playOpen_82 : decode cX4_playOpen 82 = .ok (.return_, 1) := by decide +kernel
theorem dX4_setEnds_0 : decode cX4_setEnds 0 = .ok (.iload_n 2, 1) := by decide +kernel
theorem dX4_setEnds_1 : decode cX4_setEnds 1 = .ok (.iload_n 1, 1) := by decide +kernel
theorem dX4_setEnds_2 : decode cX4_setEnds 2 = .ok (.isub, 1) := by decide +kernel
theorem dX4_setEnds_3 : decode cX4_setEnds 3 = .ok (.istore_n 3, 1) := by decide +kernel
theorem dX4_setEnds_4 : decode cX4_setEnds 4 = .ok (.iload_n 3, 1) := by decide +kernel
theorem dX4_setEnds_5 : decode cX4_setEnds 5 = .ok (.iload_n 2, 1) := by decide +kernel
theorem dX4_setEnds_6 : decode cX4_setEnds 6 = .ok (.iload_n 1, 1) := by decide +kernel
theorem dX4_setEnds_7 : decode cX4_setEnds 7 = .ok (.iadd, 1) := by decide +kernel
theorem dX4_setEnds_8 : decode cX4_setEnds 8 = .ok (.if_icmp .gt 37, 3) := by decide +kernel
theorem dX4_setEnds_11 : decode cX4_setEnds 11 = .ok (.aload_n 0, 1) := by decide +kernel
theorem dX4_setEnds_12 : decode cX4_setEnds 12 = .ok (.getfield 9, 3) := by decide +kernel
theorem dX4_setEnds_15 : decode cX4_setEnds 15 = .ok (.bipush 24, 2) := by decide +kernel
theorem dX4_setEnds_17 : decode cX4_setEnds 17 = .ok (.iload_n 3, 1) := by decide +kernel
theorem dX4_setEnds_18 : decode cX4_setEnds 18 = .ok (.iadd, 1) := by decide +kernel
theorem dX4_setEnds_19 : decode cX4_setEnds 19 = .ok (.iload_n 3, 1) := by decide +kernel
theorem dX4_setEnds_20 : decode cX4_setEnds 20 = .ok (.ifCond .ne 8, 3) := by decide +kernel
theorem dX4_setEnds_23 : decode cX4_setEnds 23 = .ok (.ldc 40, 2) := by decide +kernel
theorem dX4_setEnds_25 : decode cX4_setEnds 25 = .ok (.goto 13, 3) := by decide +kernel
theorem dX4_setEnds_28 : decode cX4_setEnds 28 = .ok (.iload_n 3, 1) := by decide +kernel
theorem dX4_setEnds_29 : decode cX4_setEnds 29 = .ok (.ifCond .le 8, 3) := by decide +kernel
theorem dX4_setEnds_32 : decode cX4_setEnds 32 = .ok (.ldc 41, 2) := by decide +kernel
theorem dX4_setEnds_34 : decode cX4_setEnds 34 = .ok (.goto 4, 3) := by decide +kernel
theorem dX4_setEnds_37 : decode cX4_setEnds 37 = .ok (.iconst 0, 1) := by decide +kernel
theorem dX4_setEnds_38 : decode cX4_setEnds 38 = .ok (.iastore, 1) := by decide +kernel
theorem dX4_setEnds_39 : decode cX4_setEnds 39 = .ok (.iinc 3 1, 3) := by decide +kernel
theorem dX4_setEnds_42 : decode cX4_setEnds 42 = .ok (.goto (-38), 3) := by decide +kernel
theorem dX4_setEnds_45 : decode cX4_setEnds 45 = .ok (.return_, 1) := by decide +kernel
theorem dX4_stepBack_0 : decode cX4_stepBack 0 = .ok (.aload_n 0, 1) := by decide +kernel
theorem dX4_stepBack_1 : decode cX4_stepBack 1 = .ok (.getfield 9, 3) := by decide +kernel
theorem dX4_stepBack_4 : decode cX4_stepBack 4 = .ok (.astore_n 1, 1) := by decide +kernel
theorem dX4_stepBack_5 : decode cX4_stepBack 5 = .ok (.aload_n 0, 1) := by decide +kernel
theorem dX4_stepBack_6 : decode cX4_stepBack 6 = .ok (.aload_n 0, 1) := by decide +kernel
theorem dX4_stepBack_7 : decode cX4_stepBack 7 = .ok (.getfield 13, 3) := by decide +kernel
theorem dX4_stepBack_10 : decode cX4_stepBack 10 = .ok (.putfield 9, 3) := by decide +kernel
theorem dX4_stepBack_13 : decode cX4_stepBack 13 = .ok (.aload_n 0, 1) := by decide +kernel
theorem dX4_stepBack_14 : decode cX4_stepBack 14 = .ok (.aload_n 1, 1) := by decide +kernel
theorem dX4_stepBack_15 : decode cX4_stepBack 15 = .ok (.putfield 13, 3) := by decide +kernel
theorem dX4_stepBack_18 : decode cX4_stepBack 18 = .ok (.return_, 1) := by decide +kernel
set_option maxRecDepth 20000 in
theorem ggX4_chooseOpen_X5_tenthsOf : GoodIn wsX4_chooseOpen wsX5_tenthsOf := goodIn_r _ [8, 9, 33, 34, 35] (by decide +kernel) (by decide +kernel)
set_option maxRecDepth 20000 in
theorem gX4_chooseOpen_X5_tenthsOf : GoodIn wsX4_chooseOpen (wsV RX4 42 RX5 yX5_tenthsOf wsX5_tenthsOf) := goodIn_app (goodIn_of _ (by decide +kernel)) ggX4_chooseOpen_X5_tenthsOf
set_option maxRecDepth 20000 in
theorem ggX4_chooseOpen_X4_roundValue : GoodIn wsX4_chooseOpen wsX4_roundValue := goodIn_r _ [13] (by decide +kernel) (by decide +kernel)
set_option maxRecDepth 20000 in
theorem gX4_chooseOpen_X4_roundValue : GoodIn wsX4_chooseOpen (va_wsS RX4 48 yX4_roundValue wsX4_roundValue) := goodIn_app (goodIn_of _ (by decide +kernel)) ggX4_chooseOpen_X4_roundValue
set_option maxRecDepth 20000 in
theorem ggX4_chooseOpen_X4_answer : GoodIn wsX4_chooseOpen wsX4_answer := goodIn_r _ [17, 3, 18, 19, 20, 21, 2, 27, 28, 29, 30, 31, 32] (by decide +kernel) (by decide +kernel)
set_option maxRecDepth 20000 in
theorem gX4_chooseOpen_X4_answer : GoodIn wsX4_chooseOpen (wsV RX4 52 RX4 yX4_answer wsX4_answer) := goodIn_app (goodIn_of _ (by decide +kernel)) ggX4_chooseOpen_X4_answer
set_option maxRecDepth 20000 in
theorem ggX4_chooseOpen_X4_preferHeld : GoodIn wsX4_chooseOpen wsX4_preferHeld := goodIn_r _ [25, 2, 26, 3, 27, 28, 29, 30, 31, 32] (by decide +kernel) (by decide +kernel)
set_option maxRecDepth 20000 in
theorem gX4_chooseOpen_X4_preferHeld : GoodIn wsX4_chooseOpen (wsV RX4 55 RX4 yX4_preferHeld wsX4_preferHeld) := goodIn_app (goodIn_of _ (by decide +kernel)) ggX4_chooseOpen_X4_preferHeld
theorem dX4_chooseOpen_0 : decode cX4_chooseOpen 0 = .ok (.aload_n 0, 1) := by decide +kernel
theorem dX4_chooseOpen_1 : decode cX4_chooseOpen 1 = .ok (.aload_n 0, 1) := by decide +kernel
theorem dX4_chooseOpen_2 : decode cX4_chooseOpen 2 = .ok (.getfield 26, 3) := by decide +kernel
theorem dX4_chooseOpen_5 : decode cX4_chooseOpen 5 = .ok (.iconst 0, 1) := by decide +kernel
theorem dX4_chooseOpen_6 : decode cX4_chooseOpen 6 = .ok (.iconst 0, 1) := by decide +kernel
theorem dX4_chooseOpen_7 : decode cX4_chooseOpen 7 = .ok (.invokevirtual 42, 3) := by decide +kernel
theorem dX4_chooseOpen_10 : decode cX4_chooseOpen 10 = .ok (.iload_n 1, 1) := by decide +kernel
theorem dX4_chooseOpen_11 : decode cX4_chooseOpen 11 = .ok (.iload_n 2, 1) := by decide +kernel
theorem dX4_chooseOpen_12 : decode cX4_chooseOpen 12 = .ok (.invokestatic 48, 3) := by decide +kernel
theorem dX4_chooseOpen_15 : decode cX4_chooseOpen 15 = .ok (.aload_n 0, 1) := by decide +kernel
theorem dX4_chooseOpen_16 : decode cX4_chooseOpen 16 = .ok (.getfield 26, 3) := by decide +kernel
theorem dX4_chooseOpen_19 : decode cX4_chooseOpen 19 = .ok (.iconst 0, 1) := by decide +kernel
theorem dX4_chooseOpen_20 : decode cX4_chooseOpen 20 = .ok (.iconst 1, 1) := by decide +kernel
theorem dX4_chooseOpen_21 : decode cX4_chooseOpen 21 = .ok (.invokevirtual 42, 3) := by decide +kernel
theorem dX4_chooseOpen_24 : decode cX4_chooseOpen 24 = .ok (.iload_n 1, 1) := by decide +kernel
theorem dX4_chooseOpen_25 : decode cX4_chooseOpen 25 = .ok (.iload_n 2, 1) := by decide +kernel
theorem dX4_chooseOpen_26 : decode cX4_chooseOpen 26 = .ok (.invokestatic 48, 3) := by decide +kernel
theorem dX4_chooseOpen_29 : decode cX4_chooseOpen 29 = .ok (.invokevirtual 52, 3) := by decide +kernel
theorem dX4_chooseOpen_32 : decode cX4_chooseOpen 32 = .ok (.aload_n 0, 1) := by decide +kernel
theorem dX4_chooseOpen_33 : decode cX4_chooseOpen 33 = .ok (.getfield 16, 3) := by decide +kernel
theorem dX4_chooseOpen_36 : decode cX4_chooseOpen 36 = .ok (.istore_n 3, 1) := by decide +kernel
theorem dX4_chooseOpen_37 : decode cX4_chooseOpen 37 = .ok (.aload_n 0, 1) := by decide +kernel
theorem dX4_chooseOpen_38 : decode cX4_chooseOpen 38 = .ok (.getfield 23, 3) := by decide +kernel
theorem dX4_chooseOpen_41 : decode cX4_chooseOpen 41 = .ok (.istore 4, 2) := by decide +kernel
theorem dX4_chooseOpen_43 : decode cX4_chooseOpen 43 = .ok (.aload_n 0, 1) := by decide +kernel
theorem dX4_chooseOpen_44 : decode cX4_chooseOpen 44 = .ok (.aload_n 0, 1) := by decide +kernel
theorem dX4_chooseOpen_45 : decode cX4_chooseOpen 45 = .ok (.getfield 26, 3) := by decide +kernel
theorem dX4_chooseOpen_48 : decode cX4_chooseOpen 48 = .ok (.iconst 1, 1) := by decide +kernel
theorem dX4_chooseOpen_49 : decode cX4_chooseOpen 49 = .ok (.iconst 0, 1) := by decide +kernel
theorem dX4_chooseOpen_50 : decode cX4_chooseOpen 50 = .ok (.invokevirtual 42, 3) := by decide +kernel
theorem dX4_chooseOpen_53 : decode cX4_chooseOpen 53 = .ok (.iload_n 1, 1) := by decide +kernel
theorem dX4_chooseOpen_54 : decode cX4_chooseOpen 54 = .ok (.iload_n 2, 1) := by decide +kernel
theorem dX4_chooseOpen_55 : decode cX4_chooseOpen 55 = .ok (.invokestatic 48, 3) := by decide +kernel
theorem dX4_chooseOpen_58 : decode cX4_chooseOpen 58 = .ok (.aload_n 0, 1) := by decide +kernel
theorem dX4_chooseOpen_59 : decode cX4_chooseOpen 59 = .ok (.getfield 26, 3) := by decide +kernel
theorem dX4_chooseOpen_62 : decode cX4_chooseOpen 62 = .ok (.iconst 1, 1) := by decide +kernel
theorem dX4_chooseOpen_63 : decode cX4_chooseOpen 63 = .ok (.iconst 1, 1) := by decide +kernel
theorem dX4_chooseOpen_64 : decode cX4_chooseOpen 64 = .ok (.invokevirtual 42, 3) := by decide +kernel
theorem dX4_chooseOpen_67 : decode cX4_chooseOpen 67 = .ok (.iload_n 1, 1) := by decide +kernel
theorem dX4_chooseOpen_68 : decode cX4_chooseOpen 68 = .ok (.iload_n 2, 1) := by decide +kernel
theorem dX4_chooseOpen_69 : decode cX4_chooseOpen 69 = .ok (.invokestatic 48, 3) := by decide +kernel
theorem dX4_chooseOpen_72 : decode cX4_chooseOpen 72 = .ok (.invokevirtual 52, 3) := by decide +kernel
theorem dX4_chooseOpen_75 : decode cX4_chooseOpen 75 = .ok (.aload_n 0, 1) := by decide +kernel
theorem dX4_chooseOpen_76 : decode cX4_chooseOpen 76 = .ok (.iload_n 3, 1) := by decide +kernel
theorem dX4_chooseOpen_77 : decode cX4_chooseOpen 77 = .ok (.iload 4, 2) := by decide +kernel
theorem dX4_chooseOpen_79 : decode cX4_chooseOpen 79 = .ok (.invokevirtual 55, 3) := by decide +kernel
theorem dX4_chooseOpen_82 : decode cX4_chooseOpen 82 = .ok (.return_, 1) := by decide +kernel
theorem dX4_answer_0 : decode cX4_answer 0 = .ok (.aload_n 0, 1) := by decide +kernel
theorem dX4_answer_1 : decode cX4_answer 1 = .ok (.iload_n 2, 1) := by decide +kernel
theorem dX4_answer_2 : decode cX4_answer 2 = .ok (.iload_n 1, 1) := by decide +kernel
theorem dX4_answer_3 : decode cX4_answer 3 = .ok (.if_icmp .ge 7, 3) := by decide +kernel
theorem dX4_answer_6 : decode cX4_answer 6 = .ok (.iconst 1, 1) := by decide +kernel
theorem dX4_answer_7 : decode cX4_answer 7 = .ok (.goto 4, 3) := by decide +kernel
theorem dX4_answer_10 : decode cX4_answer 10 = .ok (.iconst 0, 1) := by decide +kernel
theorem dX4_answer_11 : decode cX4_answer 11 = .ok (.putfield 23, 3) := by decide +kernel
theorem dX4_answer_14 : decode cX4_answer 14 = .ok (.aload_n 0, 1) := by decide +kernel
theorem dX4_answer_15 : decode cX4_answer 15 = .ok (.iload_n 1, 1) := by decide +kernel
theorem dX4_answer_16 : decode cX4_answer 16 = .ok (.iload_n 2, 1) := by decide +kernel
theorem dX4_answer_17 : decode cX4_answer 17 = .ok (.invokestatic 58, 3) := by decide +kernel
theorem dX4_answer_20 : decode cX4_answer 20 = .ok (.putfield 16, 3) := by decide +kernel
theorem dX4_answer_23 : decode cX4_answer 23 = .ok (.return_, 1) := by decide +kernel
theorem dX4_preferHeld_0 : decode cX4_preferHeld 0 = .ok (.aload_n 0, 1) := by decide +kernel
theorem dX4_preferHeld_1 : decode cX4_preferHeld 1 = .ok (.getfield 16, 3) := by decide +kernel
theorem dX4_preferHeld_4 : decode cX4_preferHeld 4 = .ok (.iload_n 1, 1) := by decide +kernel
theorem dX4_preferHeld_5 : decode cX4_preferHeld 5 = .ok (.if_icmp .le 11, 3) := by decide +kernel
theorem dX4_preferHeld_8 : decode cX4_preferHeld 8 = .ok (.aload_n 0, 1) := by decide +kernel
theorem dX4_preferHeld_9 : decode cX4_preferHeld 9 = .ok (.iconst 1, 1) := by decide +kernel
theorem dX4_preferHeld_10 : decode cX4_preferHeld 10 = .ok (.putfield 20, 3) := by decide +kernel
theorem dX4_preferHeld_13 : decode cX4_preferHeld 13 = .ok (.goto 18, 3) := by decide +kernel
theorem dX4_preferHeld_16 : decode cX4_preferHeld 16 = .ok (.aload_n 0, 1) := by decide +kernel
theorem dX4_preferHeld_17 : decode cX4_preferHeld 17 = .ok (.iconst 0, 1) := by decide +kernel
theorem dX4_preferHeld_18 : decode cX4_preferHeld 18 = .ok (.putfield 20, 3) := by decide +kernel
theorem dX4_preferHeld_21 : decode cX4_preferHeld 21 = .ok (.aload_n 0, 1) := by decide +kernel
theorem dX4_preferHeld_22 : decode cX4_preferHeld 22 = .ok (.iload_n 2, 1) := by decide +kernel
theorem dX4_preferHeld_23 : decode cX4_preferHeld 23 = .ok (.putfield 23, 3) := by decide +kernel
theorem dX4_preferHeld_26 : decode cX4_preferHeld 26 = .ok (.aload_n 0, 1) := by decide +kernel
theorem dX4_preferHeld_27 : decode cX4_preferHeld 27 = .ok (.iload_n 1, 1) := by decide +kernel
theorem dX4_preferHeld_28 : decode cX4_preferHeld 28 = .ok (.putfield 16, 3) := by decide +kernel
theorem dX4_preferHeld_31 : decode cX4_preferHeld 31 = .ok (.return_, 1) := by decide +kernel
theorem dX4_roundValue_0 : decode cX4_roundValue 0 = .ok (.iload_n 0, 1) := by decide +kernel
theorem dX4_roundValue_1 : decode cX4_roundValue 1 = .ok (.iload_n 1, 1) := by decide +kernel
theorem dX4_roundValue_2 : decode cX4_roundValue 2 = .ok (.imul, 1) := by decide +kernel
theorem dX4_roundValue_3 : decode cX4_roundValue 3 = .ok (.bipush 10, 2) := by decide +kernel
theorem dX4_roundValue_5 : decode cX4_roundValue 5 = .ok (.iload_n 0, 1) := by decide +kernel
theorem dX4_roundValue_6 : decode cX4_roundValue 6 = .ok (.isub, 1) := by decide +kernel
theorem dX4_roundValue_7 : decode cX4_roundValue 7 = .ok (.iload_n 2, 1) := by decide +kernel
theorem dX4_roundValue_8 : decode cX4_roundValue 8 = .ok (.imul, 1) := by decide +kernel
theorem dX4_roundValue_9 : decode cX4_roundValue 9 = .ok (.iadd, 1) := by decide +kernel
theorem dX4_roundValue_10 : decode cX4_roundValue 10 = .ok (.bipush 10, 2) := by decide +kernel
theorem dX4_roundValue_12 : decode cX4_roundValue 12 = .ok (.idiv, 1) := by decide +kernel
theorem dX4_roundValue_13 : decode cX4_roundValue 13 = .ok (.ireturn, 1) := by decide +kernel
set_option maxRecDepth 20000 in
theorem ggX4_playHidden_X5_tenthsOf : GoodIn wsX4_playHidden wsX5_tenthsOf := goodIn_r _ [8, 9, 49, 50, 51] (by decide +kernel) (by decide +kernel)
set_option maxRecDepth 20000 in
theorem gX4_playHidden_X5_tenthsOf : GoodIn wsX4_playHidden (wsV RX4 42 RX5 yX5_tenthsOf wsX5_tenthsOf) := goodIn_app (goodIn_of _ (by decide +kernel)) ggX4_playHidden_X5_tenthsOf
set_option maxRecDepth 20000 in
theorem ggX4_playHidden_X4_fixedValue : GoodIn wsX4_playHidden wsX4_fixedValue := goodIn_r _ [14, 15, 16, 17, 18, 19, 13, 20, 21, 22, 23, 24, 25, 26, 27, 28, 29, 43, 44, 45, 46, 47, 48] (by decide +kernel) (by decide +kernel)
set_option maxRecDepth 20000 in
theorem gX4_playHidden_X4_fixedValue : GoodIn wsX4_playHidden (wsV RX4 63 RX4 yX4_fixedValue wsX4_fixedValue) := goodIn_app (goodIn_of _ (by decide +kernel)) ggX4_playHidden_X4_fixedValue
set_option maxRecDepth 20000 in
theorem ggX4_playHidden_X4_answer : GoodIn wsX4_playHidden wsX4_answer := goodIn_r _ [33, 3, 34, 35, 36, 37, 2, 43, 44, 45, 46, 47, 48] (by decide +kernel) (by decide +kernel)
set_option maxRecDepth 20000 in
theorem gX4_playHidden_X4_answer : GoodIn wsX4_playHidden (wsV RX4 52 RX4 yX4_answer wsX4_answer) := goodIn_app (goodIn_of _ (by decide +kernel)) ggX4_playHidden_X4_answer
set_option maxRecDepth 20000 in
theorem ggX4_playHidden_X4_preferHeld : GoodIn wsX4_playHidden wsX4_preferHeld := goodIn_r _ [41, 2, 42, 3, 43, 44, 45, 46, 47, 48] (by decide +kernel) (by decide +kernel)
set_option maxRecDepth 20000 in
theorem gX4_playHidden_X4_preferHeld : GoodIn wsX4_playHidden (wsV RX4 55 RX4 yX4_preferHeld wsX4_preferHeld) := goodIn_app (goodIn_of _ (by decide +kernel)) ggX4_playHidden_X4_preferHeld
theorem dX4_playHidden_0 : decode cX4_playHidden 0 = .ok (.aload_n 0, 1) := by decide +kernel
theorem dX4_playHidden_1 : decode cX4_playHidden 1 = .ok (.aload_n 0, 1) := by decide +kernel
theorem dX4_playHidden_2 : decode cX4_playHidden 2 = .ok (.iload_n 1, 1) := by decide +kernel
theorem dX4_playHidden_3 : decode cX4_playHidden 3 = .ok (.iload_n 2, 1) := by decide +kernel
theorem dX4_playHidden_4 : decode cX4_playHidden 4 = .ok (.aload_n 0, 1) := by decide +kernel
theorem dX4_playHidden_5 : decode cX4_playHidden 5 = .ok (.getfield 26, 3) := by decide +kernel
theorem dX4_playHidden_8 : decode cX4_playHidden 8 = .ok (.iconst 0, 1) := by decide +kernel
theorem dX4_playHidden_9 : decode cX4_playHidden 9 = .ok (.iconst 0, 1) := by decide +kernel
theorem dX4_playHidden_10 : decode cX4_playHidden 10 = .ok (.invokevirtual 42, 3) := by decide +kernel
theorem dX4_playHidden_13 : decode cX4_playHidden 13 = .ok (.invokevirtual 63, 3) := by decide +kernel
theorem dX4_playHidden_16 : decode cX4_playHidden 16 = .ok (.aload_n 0, 1) := by decide +kernel
theorem dX4_playHidden_17 : decode cX4_playHidden 17 = .ok (.iload_n 1, 1) := by decide +kernel
theorem dX4_playHidden_18 : decode cX4_playHidden 18 = .ok (.iload_n 2, 1) := by decide +kernel
theorem dX4_playHidden_19 : decode cX4_playHidden 19 = .ok (.aload_n 0, 1) := by decide +kernel
theorem dX4_playHidden_20 : decode cX4_playHidden 20 = .ok (.getfield 26, 3) := by decide +kernel
theorem dX4_playHidden_23 : decode cX4_playHidden 23 = .ok (.iconst 0, 1) := by decide +kernel
theorem dX4_playHidden_24 : decode cX4_playHidden 24 = .ok (.iconst 1, 1) := by decide +kernel
theorem dX4_playHidden_25 : decode cX4_playHidden 25 = .ok (.invokevirtual 42, 3) := by decide +kernel
theorem dX4_playHidden_28 : decode cX4_playHidden 28 = .ok (.invokevirtual 63, 3) := by decide +kernel
theorem dX4_playHidden_31 : decode cX4_playHidden 31 = .ok (.invokevirtual 52, 3) := by decide +kernel
theorem dX4_playHidden_34 : decode cX4_playHidden 34 = .ok (.aload_n 0, 1) := by decide +kernel
theorem dX4_playHidden_35 : decode cX4_playHidden 35 = .ok (.getfield 16, 3) := by decide +kernel
theorem dX4_playHidden_38 : decode cX4_playHidden 38 = .ok (.istore_n 3, 1) := by decide +kernel
theorem dX4_playHidden_39 : decode cX4_playHidden 39 = .ok (.aload_n 0, 1) := by decide +kernel
theorem dX4_playHidden_40 : decode cX4_playHidden 40 = .ok (.getfield 23, 3) := by decide +kernel
theorem dX4_playHidden_43 : decode cX4_playHidden 43 = .ok (.istore 4, 2) := by decide +kernel
theorem dX4_playHidden_45 : decode cX4_playHidden 45 = .ok (.aload_n 0, 1) := by decide +kernel
theorem dX4_playHidden_46 : decode cX4_playHidden 46 = .ok (.aload_n 0, 1) := by decide +kernel
theorem dX4_playHidden_47 : decode cX4_playHidden 47 = .ok (.iload_n 1, 1) := by decide +kernel
theorem dX4_playHidden_48 : decode cX4_playHidden 48 = .ok (.iload_n 2, 1) := by decide +kernel
theorem dX4_playHidden_49 : decode cX4_playHidden 49 = .ok (.aload_n 0, 1) := by decide +kernel
theorem dX4_playHidden_50 : decode cX4_playHidden 50 = .ok (.getfield 26, 3) := by decide +kernel
theorem dX4_playHidden_53 : decode cX4_playHidden 53 = .ok (.iconst 1, 1) := by decide +kernel
theorem dX4_playHidden_54 : decode cX4_playHidden 54 = .ok (.iconst 0, 1) := by decide +kernel
theorem dX4_playHidden_55 : decode cX4_playHidden 55 = .ok (.invokevirtual 42, 3) := by decide +kernel
theorem dX4_playHidden_58 : decode cX4_playHidden 58 = .ok (.invokevirtual 63, 3) := by decide +kernel
theorem dX4_playHidden_61 : decode cX4_playHidden 61 = .ok (.aload_n 0, 1) := by decide +kernel
theorem dX4_playHidden_62 : decode cX4_playHidden 62 = .ok (.iload_n 1, 1) := by decide +kernel
theorem dX4_playHidden_63 : decode cX4_playHidden 63 = .ok (.iload_n 2, 1) := by decide +kernel
theorem dX4_playHidden_64 : decode cX4_playHidden 64 = .ok (.aload_n 0, 1) := by decide +kernel
theorem dX4_playHidden_65 : decode cX4_playHidden 65 = .ok (.getfield 26, 3) := by decide +kernel
theorem dX4_playHidden_68 : decode cX4_playHidden 68 = .ok (.iconst 1, 1) := by decide +kernel
theorem dX4_playHidden_69 : decode cX4_playHidden 69 = .ok (.iconst 1, 1) := by decide +kernel
theorem dX4_playHidden_70 : decode cX4_playHidden 70 = .ok (.invokevirtual 42, 3) := by decide +kernel
theorem dX4_playHidden_73 : decode cX4_playHidden 73 = .ok (.invokevirtual 63, 3) := by decide +kernel
theorem dX4_playHidden_76 : decode cX4_playHidden 76 = .ok (.invokevirtual 52, 3) := by decide +kernel
theorem dX4_playHidden_79 : decode cX4_playHidden 79 = .ok (.aload_n 0, 1) := by decide +kernel
theorem dX4_playHidden_80 : decode cX4_playHidden 80 = .ok (.iload_n 3, 1) := by decide +kernel
theorem dX4_playHidden_81 : decode cX4_playHidden 81 = .ok (.iload 4, 2) := by decide +kernel
theorem dX4_playHidden_83 : decode cX4_playHidden 83 = .ok (.invokevirtual 55, 3) := by decide +kernel
theorem dX4_playHidden_86 : decode cX4_playHidden 86 = .ok (.return_, 1) := by decide +kernel
set_option maxRecDepth 20000 in
theorem ggX4_fixedValue_X4_setEnds : GoodIn wsX4_fixedValue wsX4_setEnds := goodIn_r _ [7, 2, 8, 9, 17, 18, 19, 20, 21, 22] (by decide +kernel) (by decide +kernel)
set_option maxRecDepth 20000 in
theorem gX4_fixedValue_X4_setEnds : GoodIn wsX4_fixedValue (wsV RX4 30 RX4 yX4_setEnds wsX4_setEnds) := goodIn_app (goodIn_of _ (by decide +kernel)) ggX4_fixedValue_X4_setEnds
set_option maxRecDepth 20000 in
theorem ggX4_fixedValue_X4_roundValue : GoodIn wsX4_fixedValue wsX4_roundValue := goodIn_r _ [12] (by decide +kernel) (by decide +kernel)
set_option maxRecDepth 20000 in
theorem gX4_fixedValue_X4_roundValue : GoodIn wsX4_fixedValue (va_wsS RX4 48 yX4_roundValue wsX4_roundValue) := goodIn_app (goodIn_of _ (by decide +kernel)) ggX4_fixedValue_X4_roundValue
set_option maxRecDepth 20000 in
theorem ggX4_fixedValue_X4_stepBack : GoodIn wsX4_fixedValue wsX4_stepBack := goodIn_r _ [16, 2, 1, 17, 18, 19, 20, 21, 22] (by decide +kernel) (by decide +kernel)
set_option maxRecDepth 20000 in
theorem gX4_fixedValue_X4_stepBack : GoodIn wsX4_fixedValue (wsV RX4 37 RX4 yX4_stepBack wsX4_stepBack) := goodIn_app (goodIn_of _ (by decide +kernel)) ggX4_fixedValue_X4_stepBack
theorem dX4_fixedValue_0 : decode cX4_fixedValue 0 = .ok (.aload_n 0, 1) := by decide +kernel
theorem dX4_fixedValue_1 : decode cX4_fixedValue 1 = .ok (.iload_n 1, 1) := by decide +kernel
theorem dX4_fixedValue_2 : decode cX4_fixedValue 2 = .ok (.iload_n 2, 1) := by decide +kernel
theorem dX4_fixedValue_3 : decode cX4_fixedValue 3 = .ok (.invokevirtual 30, 3) := by decide +kernel
theorem dX4_fixedValue_6 : decode cX4_fixedValue 6 = .ok (.iload_n 1, 1) := by decide +kernel
theorem dX4_fixedValue_7 : decode cX4_fixedValue 7 = .ok (.iconst 1, 1) := by decide +kernel
theorem dX4_fixedValue_8 : decode cX4_fixedValue 8 = .ok (.isub, 1) := by decide +kernel
theorem dX4_fixedValue_9 : decode cX4_fixedValue 9 = .ok (.istore 4, 2) := by decide +kernel
theorem dX4_fixedValue_11 : decode cX4_fixedValue 11 = .ok (.iload 4, 2) := by decide +kernel
theorem dX4_fixedValue_13 : decode cX4_fixedValue 13 = .ok (.ifCond .lt 69, 3) := by decide +kernel
theorem dX4_fixedValue_16 : decode cX4_fixedValue 16 = .ok (.bipush 24, 2) := by decide +kernel
theorem dX4_fixedValue_18 : decode cX4_fixedValue 18 = .ok (.iload_n 2, 1) := by decide +kernel
theorem dX4_fixedValue_19 : decode cX4_fixedValue 19 = .ok (.iadd, 1) := by decide +kernel
theorem dX4_fixedValue_20 : decode cX4_fixedValue 20 = .ok (.iload 4, 2) := by decide +kernel
theorem dX4_fixedValue_22 : decode cX4_fixedValue 22 = .ok (.isub, 1) := by decide +kernel
theorem dX4_fixedValue_23 : decode cX4_fixedValue 23 = .ok (.istore 5, 2) := by decide +kernel
theorem dX4_fixedValue_25 : decode cX4_fixedValue 25 = .ok (.iload 5, 2) := by decide +kernel
theorem dX4_fixedValue_27 : decode cX4_fixedValue 27 = .ok (.bipush 24, 2) := by decide +kernel
theorem dX4_fixedValue_29 : decode cX4_fixedValue 29 = .ok (.iload_n 2, 1) := by decide +kernel
theorem dX4_fixedValue_30 : decode cX4_fixedValue 30 = .ok (.iadd, 1) := by decide +kernel
theorem dX4_fixedValue_31 : decode cX4_fixedValue 31 = .ok (.iload 4, 2) := by decide +kernel
theorem dX4_fixedValue_33 : decode cX4_fixedValue 33 = .ok (.iadd, 1) := by decide +kernel
theorem dX4_fixedValue_34 : decode cX4_fixedValue 34 = .ok (.if_icmp .gt 38, 3) := by decide +kernel
theorem dX4_fixedValue_37 : decode cX4_fixedValue 37 = .ok (.aload_n 0, 1) := by decide +kernel
theorem dX4_fixedValue_38 : decode cX4_fixedValue 38 = .ok (.getfield 13, 3) := by decide +kernel
theorem dX4_fixedValue_41 : decode cX4_fixedValue 41 = .ok (.iload 5, 2) := by decide +kernel
theorem dX4_fixedValue_43 : decode cX4_fixedValue 43 = .ok (.iload_n 3, 1) := by decide +kernel
theorem dX4_fixedValue_44 : decode cX4_fixedValue 44 = .ok (.aload_n 0, 1) := by decide +kernel
theorem dX4_fixedValue_45 : decode cX4_fixedValue 45 = .ok (.getfield 9, 3) := by decide +kernel
theorem dX4_fixedValue_48 : decode cX4_fixedValue 48 = .ok (.iload 5, 2) := by decide +kernel
theorem dX4_fixedValue_50 : decode cX4_fixedValue 50 = .ok (.iconst 1, 1) := by decide +kernel
theorem dX4_fixedValue_51 : decode cX4_fixedValue 51 = .ok (.iadd, 1) := by decide +kernel
theorem dX4_fixedValue_52 : decode cX4_fixedValue 52 = .ok (.iaload, 1) := by decide +kernel
theorem dX4_fixedValue_53 : decode cX4_fixedValue 53 = .ok (.aload_n 0, 1) := by decide +kernel
theorem dX4_fixedValue_54 : decode cX4_fixedValue 54 = .ok (.getfield 9, 3) := by decide +kernel
theorem dX4_fixedValue_57 : decode cX4_fixedValue 57 = .ok (.iload 5, 2) := by decide +kernel
theorem dX4_fixedValue_59 : decode cX4_fixedValue 59 = .ok (.iconst 1, 1) := by decide +kernel
theorem dX4_fixedValue_60 : decode cX4_fixedValue 60 = .ok (.isub, 1) := by decide +kernel
theorem dX4_fixedValue_61 : decode cX4_fixedValue 61 = .ok (.iaload, 1) := by decide +kernel
theorem dX4_fixedValue_62 : decode cX4_fixedValue 62 = .ok (.invokestatic 48, 3) := by decide +kernel
theorem dX4_fixedValue_65 : decode cX4_fixedValue 65 = .ok (.iastore, 1) := by decide +kernel
theorem dX4_fixedValue_66 : decode cX4_fixedValue 66 = .ok (.iinc 5 1, 3) := by decide +kernel
theorem dX4_fixedValue_69 : decode cX4_fixedValue 69 = .ok (.goto (-44), 3) := by decide +kernel
theorem dX4_fixedValue_72 : decode cX4_fixedValue 72 = .ok (.aload_n 0, 1) := by decide +kernel
theorem dX4_fixedValue_73 : decode cX4_fixedValue 73 = .ok (.invokevirtual 37, 3) := by decide +kernel
theorem dX4_fixedValue_76 : decode cX4_fixedValue 76 = .ok (.iinc 4 (-1), 3) := by decide +kernel
theorem dX4_fixedValue_79 : decode cX4_fixedValue 79 = .ok (.goto (-68), 3) := by decide +kernel
theorem dX4_fixedValue_82 : decode cX4_fixedValue 82 = .ok (.aload_n 0, 1) := by decide +kernel
theorem dX4_fixedValue_83 : decode cX4_fixedValue 83 = .ok (.getfield 9, 3) := by decide +kernel
theorem dX4_fixedValue_86 : decode cX4_fixedValue 86 = .ok (.bipush 24, 2) := by decide +kernel
theorem dX4_fixedValue_88 : decode cX4_fixedValue 88 = .ok (.iload_n 2, 1) := by decide +kernel
theorem dX4_fixedValue_89 : decode cX4_fixedValue 89 = .ok (.iadd, 1) := by decide +kernel
theorem dX4_fixedValue_90 : decode cX4_fixedValue 90 = .ok (.iaload, 1) := by decide +kernel
theorem dX4_fixedValue_91 : decode cX4_fixedValue 91 = .ok (.ireturn, 1) := by decide +kernel
set_option maxRecDepth 20000 in
theorem ggX5_init_J7_fill_53178 : GoodIn wsX5_init wsJ7_fill_53178 := goodIn_r _ [11] (by decide +kernel) (by decide +kernel)
set_option maxRecDepth 20000 in
theorem gX5_init_J7_fill_53178 : GoodIn wsX5_init (va_wsS RX5 21 yJ7_fill_53178 wsJ7_fill_53178) := goodIn_app (goodIn_of _ (by decide +kernel)) ggX5_init_J7_fill_53178
theorem dX5_init_0 : decode cX5_init 0 = .ok (.aload_n 0, 1) := by decide +kernel
theorem dX5_init_1 : decode cX5_init 1 = .ok (.invokespecial 1, 3) := by decide +kernel
theorem dX5_init_4 : decode cX5_init 4 = .ok (.aload_n 0, 1) := by decide +kernel
theorem dX5_init_5 : decode cX5_init 5 = .ok (.bipush 8, 2) := by decide +kernel
theorem dX5_init_7 : decode cX5_init 7 = .ok (.newarray .int, 2) := by decide +kernel
theorem dX5_init_9 : decode cX5_init 9 = .ok (.putfield 9, 3) := by decide +kernel
theorem dX5_init_12 : decode cX5_init 12 = .ok (.aload_n 0, 1) := by decide +kernel
theorem dX5_init_13 : decode cX5_init 13 = .ok (.sipush 144, 3) := by decide +kernel
theorem dX5_init_16 : decode cX5_init 16 = .ok (.newarray .int, 2) := by decide +kernel
theorem dX5_init_18 : decode cX5_init 18 = .ok (.putfield 15, 3) := by decide +kernel
theorem dX5_init_21 : decode cX5_init 21 = .ok (.aload_n 0, 1) := by decide +kernel
theorem dX5_init_22 : decode cX5_init 22 = .ok (.iconst 4, 1) := by decide +kernel
theorem dX5_init_23 : decode cX5_init 23 = .ok (.newarray .int, 2) := by decide +kernel
theorem dX5_init_25 : decode cX5_init 25 = .ok (.dup, 1) := by decide +kernel
theorem dX5_init_26 : decode cX5_init 26 = .ok (.iconst 0, 1) := by decide +kernel
theorem dX5_init_27 : decode cX5_init 27 = .ok (.iconst 5, 1) := by decide +kernel
theorem dX5_init_28 : decode cX5_init 28 = .ok (.iastore, 1) := by decide +kernel
theorem dX5_init_29 : decode cX5_init 29 = .ok (.dup, 1) := by decide +kernel
theorem dX5_init_30 : decode cX5_init 30 = .ok (.iconst 1, 1) := by decide +kernel
theorem dX5_init_31 : decode cX5_init 31 = .ok (.iconst 5, 1) := by decide +kernel
theorem dX5_init_32 : decode cX5_init 32 = .ok (.iastore, 1) := by decide +kernel
theorem dX5_init_33 : decode cX5_init 33 = .ok (.dup, 1) := by decide +kernel
theorem dX5_init_34 : decode cX5_init 34 = .ok (.iconst 2, 1) := by decide +kernel
theorem dX5_init_35 : decode cX5_init 35 = .ok (.iconst 5, 1) := by decide +kernel
theorem dX5_init_36 : decode cX5_init 36 = .ok (.iastore, 1) := by decide +kernel
theorem dX5_init_37 : decode cX5_init 37 = .ok (.dup, 1) := by decide +kernel
theorem dX5_init_38 : decode cX5_init 38 = .ok (.iconst 3, 1) := by decide +kernel
theorem dX5_init_39 : decode cX5_init 39 = .ok (.iconst 5, 1) := by decide +kernel
theorem dX5_init_40 : decode cX5_init 40 = .ok (.iastore, 1) := by decide +kernel
theorem dX5_init_41 : decode cX5_init 41 = .ok (.putfield 18, 3) := by decide +kernel
theorem dX5_init_44 : decode cX5_init 44 = .ok (.aload_n 0, 1) := by decide +kernel
theorem dX5_init_45 : decode cX5_init 45 = .ok (.getfield 15, 3) := by decide +kernel
theorem dX5_init_48 : decode cX5_init 48 = .ok (.bipush (-21), 2) := by decide +kernel
theorem dX5_init_50 : decode cX5_init 50 = .ok (.invokestatic 21, 3) := by decide +kernel
theorem dX5_init_53 : decode cX5_init 53 = .ok (.return_, 1) := by decide +kernel
set_option maxRecDepth 20000 in
theorem ggX5_stopDelays_J7_fill_53178 : GoodIn wsX5_stopDelays wsJ7_fill_53178 := goodIn_r _ [5] (by decide +kernel) (by decide +kernel)
set_option maxRecDepth 20000 in
theorem gX5_stopDelays_J7_fill_53178 : GoodIn wsX5_stopDelays (va_wsS RX5 21 yJ7_fill_53178 wsJ7_fill_53178) := goodIn_app (goodIn_of _ (by decide +kernel)) ggX5_stopDelays_J7_fill_53178
theorem dX5_stopDelays_0 : decode cX5_stopDelays 0 = .ok (.aload_n 0, 1) := by decide +kernel
theorem dX5_stopDelays_1 : decode cX5_stopDelays 1 = .ok (.getfield 9, 3) := by decide +kernel
theorem dX5_stopDelays_4 : decode cX5_stopDelays 4 = .ok (.iconst 0, 1) := by decide +kernel
theorem dX5_stopDelays_5 : decode cX5_stopDelays 5 = .ok (.invokestatic 21, 3) := by decide +kernel
theorem dX5_stopDelays_8 : decode cX5_stopDelays 8 = .ok (.return_, 1) := by decide +kernel
theorem dX5_copyFrom_0 : decode cX5_copyFrom 0 = .ok (.aload_n 1, 1) := by decide +kernel
theorem dX5_copyFrom_1 : decode cX5_copyFrom 1 = .ok (.getfield 9, 3) := by decide +kernel
theorem dX5_copyFrom_4 : decode cX5_copyFrom 4 = .ok (.iconst 0, 1) := by decide +kernel
theorem dX5_copyFrom_5 : decode cX5_copyFrom 5 = .ok (.aload_n 0, 1) := by decide +kernel
theorem dX5_copyFrom_6 : decode cX5_copyFrom 6 = .ok (.getfield 9, 3) := by decide +kernel
theorem dX5_copyFrom_9 : decode cX5_copyFrom 9 = .ok (.iconst 0, 1) := by decide +kernel
theorem dX5_copyFrom_10 : decode cX5_copyFrom 10 = .ok (.aload_n 0, 1) := by decide +kernel
theorem dX5_copyFrom_11 : decode cX5_copyFrom 11 = .ok (.getfield 9, 3) := by decide +kernel
theorem dX5_copyFrom_14 : decode cX5_copyFrom 14 = .ok (.arraylength, 1) := by decide +kernel
theorem dX5_copyFrom_15 : decode cX5_copyFrom 15 = .ok (.invokestatic 27, 3) := by decide +kernel
theorem dX5_copyFrom_18 : decode cX5_copyFrom 18 = .ok (.aload_n 1, 1) := by decide +kernel
theorem dX5_copyFrom_19 : decode cX5_copyFrom 19 = .ok (.getfield 15, 3) := by decide +kernel
theorem dX5_copyFrom_22 : decode cX5_copyFrom 22 = .ok (.iconst 0, 1) := by decide +kernel
theorem dX5_copyFrom_23 : decode cX5_copyFrom 23 = .ok (.aload_n 0, 1) := by decide +kernel
theorem dX5_copyFrom_24 : decode cX5_copyFrom 24 = .ok (.getfield 15, 3) := by decide +kernel
theorem dX5_copyFrom_27 : decode cX5_copyFrom 27 = .ok (.iconst 0, 1) := by decide +kernel
theorem dX5_copyFrom_28 : decode cX5_copyFrom 28 = .ok (.aload_n 0, 1) := by decide +kernel
theorem dX5_copyFrom_29 : decode cX5_copyFrom 29 = .ok (.getfield 15, 3) := by decide +kernel
theorem dX5_copyFrom_32 : decode cX5_copyFrom 32 = .ok (.arraylength, 1) := by decide +kernel
theorem dX5_copyFrom_33 : decode cX5_copyFrom 33 = .ok (.invokestatic 27, 3) := by decide +kernel
theorem dX5_copyFrom_36 : decode cX5_copyFrom 36 = .ok (.aload_n 1, 1) := by decide +kernel
theorem dX5_copyFrom_37 : decode cX5_copyFrom 37 = .ok (.getfield 18, 3) := by decide +kernel
theorem dX5_copyFrom_40 : decode cX5_copyFrom 40 = .ok (.iconst 0, 1) := by decide +kernel
theorem dX5_copyFrom_41 : decode cX5_copyFrom 41 = .ok (.aload_n 0, 1) := by decide +kernel
theorem dX5_copyFrom_42 : decode cX5_copyFrom 42 = .ok (.getfield 18, 3) := by decide +kernel
theorem dX5_copyFrom_45 : decode cX5_copyFrom 45 = .ok (.iconst 0, 1) := by decide +kernel
theorem dX5_copyFrom_46 : decode cX5_copyFrom 46 = .ok (.aload_n 0, 1) := by decide +kernel
theorem dX5_copyFrom_47 : decode cX5_copyFrom 47 = .ok (.getfield 18, 3) := by decide +kernel
theorem dX5_copyFrom_50 : decode cX5_copyFrom 50 = .ok (.arraylength, 1) := by decide +kernel
theorem dX5_copyFrom_51 : decode cX5_copyFrom 51 = .ok (.invokestatic 27, 3) := by decide +kernel
theorem dX5_copyFrom_54 : decode cX5_copyFrom 54 = .ok (.return_, 1) := by decide +kernel
theorem dX5_toldOf_0 : decode cX5_toldOf 0 = .ok (.aload_n 0, 1) := by decide +kernel
theorem dX5_toldOf_1 : decode cX5_toldOf 1 = .ok (.getfield 15, 3) := by decide +kernel
theorem dX5_toldOf_4 : decode cX5_toldOf 4 = .ok (.iload_n 1, 1) := by decide +kernel
theorem dX5_toldOf_5 : decode cX5_toldOf 5 = .ok (.bipush 24, 2) := by decide +kernel
theorem dX5_toldOf_7 : decode cX5_toldOf 7 = .ok (.imul, 1) := by decide +kernel
theorem dX5_toldOf_8 : decode cX5_toldOf 8 = .ok (.iload_n 2, 1) := by decide +kernel
theorem dX5_toldOf_9 : decode cX5_toldOf 9 = .ok (.iadd, 1) := by decide +kernel
theorem dX5_toldOf_10 : decode cX5_toldOf 10 = .ok (.iaload, 1) := by decide +kernel
theorem dX5_toldOf_11 : decode cX5_toldOf 11 = .ok (.ireturn, 1) := by decide +kernel
set_option maxRecDepth 20000 in
theorem ggX5_isTold_X5_toldOf : GoodIn wsX5_isTold wsX5_toldOf := goodIn_r _ [5, 6, 7, 8, 9] (by decide +kernel) (by decide +kernel)
set_option maxRecDepth 20000 in
theorem gX5_isTold_X5_toldOf : GoodIn wsX5_isTold (wsV RX5 33 RX5 yX5_toldOf wsX5_toldOf) := goodIn_app (goodIn_of _ (by decide +kernel)) ggX5_isTold_X5_toldOf
theorem dX5_isTold_0 : decode cX5_isTold 0 = .ok (.aload_n 0, 1) := by decide +kernel
theorem dX5_isTold_1 : decode cX5_isTold 1 = .ok (.iload_n 1, 1) := by decide +kernel
theorem dX5_isTold_2 : decode cX5_isTold 2 = .ok (.iload_n 2, 1) := by decide +kernel
theorem dX5_isTold_3 : decode cX5_isTold 3 = .ok (.invokevirtual 33, 3) := by decide +kernel
theorem dX5_isTold_6 : decode cX5_isTold 6 = .ok (.bipush (-21), 2) := by decide +kernel
theorem dX5_isTold_8 : decode cX5_isTold 8 = .ok (.if_icmp .eq 7, 3) := by decide +kernel
theorem dX5_isTold_11 : decode cX5_isTold 11 = .ok (.iconst 1, 1) := by decide +kernel
theorem dX5_isTold_12 : decode cX5_isTold 12 = .ok (.goto 4, 3) := by decide +kernel
theorem dX5_isTold_15 : decode cX5_isTold 15 = .ok (.iconst 0, 1) := by decide +kernel
theorem dX5_isTold_16 : decode cX5_isTold 16 = .ok (.ireturn, 1) := by decide +kernel
theorem dX5_setTold_0 : decode cX5_setTold 0 = .ok (.aload_n 0, 1) := by decide +kernel
theorem dX5_setTold_1 : decode cX5_setTold 1 = .ok (.getfield 15, 3) := by decide +kernel
theorem dX5_setTold_4 : decode cX5_setTold 4 = .ok (.iload_n 1, 1) := by decide +kernel
theorem dX5_setTold_5 : decode cX5_setTold 5 = .ok (.bipush 24, 2) := by decide +kernel
theorem dX5_setTold_7 : decode cX5_setTold 7 = .ok (.imul, 1) := by decide +kernel
theorem dX5_setTold_8 : decode cX5_setTold 8 = .ok (.iload_n 2, 1) := by decide +kernel
theorem dX5_setTold_9 : decode cX5_setTold 9 = .ok (.iadd, 1) := by decide +kernel
theorem dX5_setTold_10 : decode cX5_setTold 10 = .ok (.iload_n 3, 1) := by decide +kernel
theorem dX5_setTold_11 : decode cX5_setTold 11 = .ok (.iastore, 1) := by decide +kernel
theorem dX5_setTold_12 : decode cX5_setTold 12 = .ok (.return_, 1) := by decide +kernel
theorem dX5_howManyTold_0 : decode cX5_howManyTold 0 = .ok (.iconst 0, 1) := by decide +kernel
theorem dX5_howManyTold_1 : decode cX5_howManyTold 1 = .ok (.istore_n 1, 1) := by decide +kernel
theorem dX5_howManyTold_2 : decode cX5_howManyTold 2 = .ok (.iconst 0, 1) := by decide +kernel
theorem dX5_howManyTold_3 : decode cX5_howManyTold 3 = .ok (.istore_n 2, 1) := by decide +kernel
theorem dX5_howManyTold_4 : decode cX5_howManyTold 4 = .ok (.iload_n 2, 1) := by decide +kernel
theorem dX5_howManyTold_5 : decode cX5_howManyTold 5 = .ok (.aload_n 0, 1) := by decide +kernel
theorem dX5_howManyTold_6 : decode cX5_howManyTold 6 = .ok (.getfield 15, 3) := by decide +kernel
theorem dX5_howManyTold_9 : decode cX5_howManyTold 9 = .ok (.arraylength, 1) := by decide +kernel
theorem dX5_howManyTold_10 : decode cX5_howManyTold 10 = .ok (.if_icmp .ge 28, 3) := by decide +kernel
theorem dX5_howManyTold_13 : decode cX5_howManyTold 13 = .ok (.iload_n 1, 1) := by decide +kernel
theorem dX5_howManyTold_14 : decode cX5_howManyTold 14 = .ok (.aload_n 0, 1) := by decide +kernel
theorem dX5_howManyTold_15 : decode cX5_howManyTold 15 = .ok (.getfield 15, 3) := by decide +kernel
theorem dX5_howManyTold_18 : decode cX5_howManyTold 18 = .ok (.iload_n 2, 1) := by decide +kernel
theorem dX5_howManyTold_19 : decode cX5_howManyTold 19 = .ok (.iaload, 1) := by decide +kernel
theorem dX5_howManyTold_20 : decode cX5_howManyTold 20 = .ok (.bipush (-21), 2) := by decide +kernel
theorem dX5_howManyTold_22 : decode cX5_howManyTold 22 = .ok (.if_icmp .eq 7, 3) := by decide +kernel
theorem dX5_howManyTold_25 : decode cX5_howManyTold 25 = .ok (.iconst 1, 1) := by decide +kernel
theorem dX5_howManyTold_26 : decode cX5_howManyTold 26 = .ok (.goto 4, 3) := by decide +kernel
theorem dX5_howManyTold_29 : decode cX5_howManyTold 29 = .ok (.iconst 0, 1) := by decide +kernel
theorem dX5_howManyTold_30 : decode cX5_howManyTold 30 = .ok (.iadd, 1) := by decide +kernel
theorem dX5_howManyTold_31 : decode cX5_howManyTold 31 = .ok (.istore_n 1, 1) := by decide +kernel
theorem dX5_howManyTold_32 : decode cX5_howManyTold 32 = .ok (.iinc 2 1, 3) := by decide +kernel
theorem dX5_howManyTold_35 : decode cX5_howManyTold 35 = .ok (.goto (-31), 3) := by decide +kernel
theorem dX5_howManyTold_38 : decode cX5_howManyTold 38 = .ok (.iload_n 1, 1) := by decide +kernel
theorem dX5_howManyTold_39 : decode cX5_howManyTold 39 = .ok (.ireturn, 1) := by decide +kernel
theorem dX5_tenthsOf_0 : decode cX5_tenthsOf 0 = .ok (.aload_n 0, 1) := by decide +kernel
theorem dX5_tenthsOf_1 : decode cX5_tenthsOf 1 = .ok (.getfield 18, 3) := by decide +kernel
theorem dX5_tenthsOf_4 : decode cX5_tenthsOf 4 = .ok (.iload_n 1, 1) := by decide +kernel
theorem dX5_tenthsOf_5 : decode cX5_tenthsOf 5 = .ok (.iconst 2, 1) := by decide +kernel
theorem dX5_tenthsOf_6 : decode cX5_tenthsOf 6 = .ok (.imul, 1) := by decide +kernel
theorem dX5_tenthsOf_7 : decode cX5_tenthsOf 7 = .ok (.iload_n 2, 1) := by decide +kernel
theorem dX5_tenthsOf_8 : decode cX5_tenthsOf 8 = .ok (.iadd, 1) := by decide +kernel
theorem dX5_tenthsOf_9 : decode cX5_tenthsOf 9 = .ok (.iaload, 1) := by decide +kernel
theorem dX5_tenthsOf_10 : decode cX5_tenthsOf 10 = .ok (.ireturn, 1) := by decide +kernel
theorem dX5_setTenths_0 : decode cX5_setTenths 0 = .ok (.aload_n 0, 1) := by decide +kernel
theorem dX5_setTenths_1 : decode cX5_setTenths 1 = .ok (.getfield 18, 3) := by decide +kernel
theorem dX5_setTenths_4 : decode cX5_setTenths 4 = .ok (.iload_n 1, 1) := by decide +kernel
theorem dX5_setTenths_5 : decode cX5_setTenths 5 = .ok (.iconst 2, 1) := by decide +kernel
theorem dX5_setTenths_6 : decode cX5_setTenths 6 = .ok (.imul, 1) := by decide +kernel
theorem dX5_setTenths_7 : decode cX5_setTenths 7 = .ok (.iload_n 2, 1) := by decide +kernel
theorem dX5_setTenths_8 : decode cX5_setTenths 8 = .ok (.iadd, 1) := by decide +kernel
theorem dX5_setTenths_9 : decode cX5_setTenths 9 = .ok (.iload_n 3, 1) := by decide +kernel
theorem dX5_setTenths_10 : decode cX5_setTenths 10 = .ok (.iastore, 1) := by decide +kernel
theorem dX5_setTenths_11 : decode cX5_setTenths 11 = .ok (.return_, 1) := by decide +kernel
theorem dX6_init_0 : decode cX6_init 0 = .ok (.aload_n 0, 1) := by decide +kernel
theorem dX6_init_1 : decode cX6_init 1 = .ok (.invokespecial 3, 3) := by decide +kernel
theorem dX6_init_4 : decode cX6_init 4 = .ok (.aload_n 0, 1) := by decide +kernel
theorem dX6_init_5 : decode cX6_init 5 = .ok (.bipush 7, 2) := by decide +kernel
theorem dX6_init_7 : decode cX6_init 7 = .ok (.newarray .int, 2) := by decide +kernel
theorem dX6_init_9 : decode cX6_init 9 = .ok (.putfield 11, 3) := by decide +kernel
theorem dX6_init_12 : decode cX6_init 12 = .ok (.aload_n 0, 1) := by decide +kernel
theorem dX6_init_13 : decode cX6_init 13 = .ok (.iconst 0, 1) := by decide +kernel
theorem dX6_init_14 : decode cX6_init 14 = .ok (.putfield 17, 3) := by decide +kernel
theorem dX6_init_17 : decode cX6_init 17 = .ok (.aload_n 0, 1) := by decide +kernel
theorem dX6_init_18 : decode cX6_init 18 = .ok (.aload_n 1, 1) := by decide +kernel
theorem dX6_init_19 : decode cX6_init 19 = .ok (.putfield 21, 3) := by decide +kernel
theorem dX6_init_22 : decode cX6_init 22 = .ok (.return_, 1) := by decide +kernel
set_option maxRecDepth 20000 in
theorem ggX6_readInto_X3_clear : GoodIn wsX6_readInto wsX3_clear := goodIn_r _ [8, 9, 10, 11, 12, 13, 14, 15, 16, 17, 18, 19, 20, 159, 160, 161, 162, 163, 164, 165, 166, 167, 168, 169, 170, 171] (by decide +kernel) (by decide +kernel)
set_option maxRecDepth 20000 in
theorem gX6_readInto_X3_clear : GoodIn wsX6_readInto (wsV RX6 25 RX3 yX3_clear wsX3_clear) := goodIn_app (goodIn_of _ (by decide +kernel)) ggX6_readInto_X3_clear
set_option maxRecDepth 20000 in
theorem ggX6_readInto_X6_readItem : GoodIn wsX6_readInto wsX6_readItem := goodIn_r _ [25, 2, 1, 26, 27, 28, 3, 29, 30, 31, 32, 33, 34, 35, 36, 37, 38, 39, 40, 41, 42, 43, 44, 45, 46, 47, 48, 49, 50, 51, 52, 53, 54, 55, 56, 57, 58, 59, 60, 61, 62, 63, 64, 65, 66, 67, 68, 69, 70, 71, 72, 73, 74, 75, 76, 77, 78, 79, 80, 81, 82, 83, 84, 85, 86, 87, 88, 89, 90, 91, 92, 93, 94, 95, 96, 97, 98, 99, 100, 101, 102, 103, 104, 105, 106, 107, 108, 109, 110, 111, 112, 113, 114, 115, 116, 117, 118, 119, 120, 121, 122, 123, 124, 125, 126, 127, 24, 128, 129, 130, 131, 154, 155, 156, 157, 158] (by decide +kernel) (by decide +kernel)
set_option maxRecDepth 20000 in
theorem gX6_readInto_X6_readItem : GoodIn wsX6_readInto (wsV RX6 33 RX6 yX6_readItem wsX6_readItem) := goodIn_app (goodIn_of _ (by decide +kernel)) ggX6_readInto_X6_readItem
set_option maxRecDepth 20000 in
theorem ggX6_readInto_X8_byteAt : GoodIn wsX6_readInto wsX8_byteAt := goodIn_r _ [33, 34, 35, 157, 158] (by decide +kernel) (by decide +kernel)
set_option maxRecDepth 20000 in
theorem gX6_readInto_X8_byteAt : GoodIn wsX6_readInto (wsV RX6 37 RX8 yX8_byteAt wsX8_byteAt) := goodIn_app (goodIn_of _ (by decide +kernel)) ggX6_readInto_X8_byteAt
set_option maxRecDepth 20000 in
theorem ggX6_readInto_X3_take : GoodIn wsX6_readInto wsX3_take := goodIn_r _ [135, 9, 14, 15, 16, 10, 11, 136, 137, 138, 7, 139, 12, 140, 141, 142, 143, 144, 145, 146, 147, 148, 149, 150, 151, 152, 13, 153, 159, 160, 161, 162, 163, 164, 165, 166, 167, 168, 169, 170, 171] (by decide +kernel) (by decide +kernel)
set_option maxRecDepth 20000 in
theorem gX6_readInto_X3_take : GoodIn wsX6_readInto (wsV RX6 41 RX3 yX3_take wsX3_take) := goodIn_app (goodIn_of _ (by decide +kernel)) ggX6_readInto_X3_take
theorem dX6_readInto_0 : decode cX6_readInto 0 = .ok (.aload_n 1, 1) := by decide +kernel
theorem dX6_readInto_1 : decode cX6_readInto 1 = .ok (.invokevirtual 25, 3) := by decide +kernel
theorem dX6_readInto_4 : decode cX6_readInto 4 = .ok (.aload_n 0, 1) := by decide +kernel
theorem dX6_readInto_5 : decode cX6_readInto 5 = .ok (.iconst 0, 1) := by decide +kernel
theorem dX6_readInto_6 : decode cX6_readInto 6 = .ok (.putfield 17, 3) := by decide +kernel
theorem dX6_readInto_9 : decode cX6_readInto 9 = .ok (.iconst 0, 1) := by decide +kernel
theorem dX6_readInto_10 : decode cX6_readInto 10 = .ok (.istore_n 2, 1) := by decide +kernel
theorem dX6_readInto_11 : decode cX6_readInto 11 = .ok (.iload_n 2, 1) := by decide +kernel
theorem dX6_readInto_12 : decode cX6_readInto 12 = .ok (.sipush 500, 3) := by decide +kernel
theorem dX6_readInto_15 : decode cX6_readInto 15 = .ok (.if_icmp .ge 56, 3) := by decide +kernel
theorem dX6_readInto_18 : decode cX6_readInto 18 = .ok (.aload_n 0, 1) := by decide +kernel
theorem dX6_readInto_19 : decode cX6_readInto 19 = .ok (.getfield 17, 3) := by decide +kernel
theorem dX6_readInto_22 : decode cX6_readInto 22 = .ok (.aload_n 0, 1) := by decide +kernel
theorem dX6_readInto_23 : decode cX6_readInto 23 = .ok (.getfield 21, 3) := by decide +kernel
theorem dX6_readInto_26 : decode cX6_readInto 26 = .ok (.getfield 30, 3) := by decide +kernel
theorem dX6_readInto_29 : decode cX6_readInto 29 = .ok (.if_icmp .ge 42, 3) := by decide +kernel
theorem dX6_readInto_32 : decode cX6_readInto 32 = .ok (.aload_n 0, 1) := by decide +kernel
theorem dX6_readInto_33 : decode cX6_readInto 33 = .ok (.getfield 17, 3) := by decide +kernel
theorem dX6_readInto_36 : decode cX6_readInto 36 = .ok (.istore_n 3, 1) := by decide +kernel
theorem dX6_readInto_37 : decode cX6_readInto 37 = .ok (.aload_n 0, 1) := by decide +kernel
theorem dX6_readInto_38 : decode cX6_readInto 38 = .ok (.invokevirtual 33, 3) := by decide +kernel
theorem dX6_readInto_41 : decode cX6_readInto 41 = .ok (.ifCond .eq 22, 3) := by decide +kernel
theorem dX6_readInto_44 : decode cX6_readInto 44 = .ok (.aload_n 1, 1) := by decide +kernel
theorem dX6_readInto_45 : decode cX6_readInto 45 = .ok (.aload_n 0, 1) := by decide +kernel
theorem dX6_readInto_46 : decode cX6_readInto 46 = .ok (.getfield 21, 3) := by decide +kernel
theorem dX6_readInto_49 : decode cX6_readInto 49 = .ok (.iload_n 3, 1) := by decide +kernel
theorem dX6_readInto_50 : decode cX6_readInto 50 = .ok (.invokevirtual 37, 3) := by decide +kernel
theorem dX6_readInto_53 : decode cX6_readInto 53 = .ok (.aload_n 0, 1) := by decide +kernel
theorem dX6_readInto_54 : decode cX6_readInto 54 = .ok (.getfield 11, 3) := by decide +kernel
theorem dX6_readInto_57 : decode cX6_readInto 57 = .ok (.invokevirtual 41, 3) := by decide +kernel
theorem dX6_readInto_60 : decode cX6_readInto 60 = .ok (.ifCond .ne 5, 3) := by decide +kernel
theorem dX6_readInto_63 : decode cX6_readInto 63 = .ok (.iload_n 3, 1) := by decide +kernel
theorem dX6_readInto_64 : decode cX6_readInto 64 = .ok (.ireturn, 1) := by decide +kernel
theorem dX6_readInto_65 : decode cX6_readInto 65 = .ok (.iinc 2 1, 3) := by decide +kernel
theorem dX6_readInto_68 : decode cX6_readInto 68 = .ok (.goto (-57), 3) := by decide +kernel
theorem dX6_readInto_71 : decode cX6_readInto 71 = .ok (.bipush (-4), 2) := by decide +kernel
theorem dX6_readInto_73 : decode cX6_readInto 73 = .ok (.ireturn, 1) := by decide +kernel
set_option maxRecDepth 20000 in
theorem ggX6_readItem_X8_byteAt : GoodIn wsX6_readItem wsX8_byteAt := goodIn_r _ [11, 12, 13, 114, 115] (by decide +kernel) (by decide +kernel)
set_option maxRecDepth 20000 in
theorem gX6_readItem_X8_byteAt : GoodIn wsX6_readItem (wsV RX6 37 RX8 yX8_byteAt wsX8_byteAt) := goodIn_app (goodIn_of _ (by decide +kernel)) ggX6_readItem_X8_byteAt
set_option maxRecDepth 20000 in
theorem ggX6_readItem_J0_indexOf_0f7a4 : GoodIn wsX6_readItem wsJ0_indexOf_0f7a4 := goodIn_r _ [18, 19, 20, 21, 17, 22, 23, 24, 25, 26, 27, 28, 29, 30, 31, 32, 33, 34, 35, 36, 37, 38, 39, 40, 41, 42, 43, 44, 45, 46, 47, 48, 49, 50, 51, 52, 53, 54, 55, 56, 57, 58, 59, 60, 61, 62, 63, 64, 65, 66, 67, 68, 69, 70, 71, 72, 73, 74, 75, 76, 77, 78, 79, 80, 81, 82, 83, 84, 85, 86, 87, 88, 89, 90, 91, 92, 93, 94, 95, 96, 97, 98, 99, 100, 101, 102] (by decide +kernel) (by decide +kernel)
set_option maxRecDepth 20000 in
theorem gX6_readItem_J0_indexOf_0f7a4 : GoodIn wsX6_readItem (wsV RX6 47 RJ0 yJ0_indexOf_0f7a4 wsJ0_indexOf_0f7a4) := goodIn_app (goodIn_of _ (by decide +kernel)) ggX6_readItem_J0_indexOf_0f7a4
set_option maxRecDepth 20000 in
theorem ggX6_readItem_X6_readNumber : GoodIn wsX6_readItem wsX6_readNumber := goodIn_r _ [107, 1, 2, 7, 8, 9, 10, 11, 12, 13, 108, 109, 110, 111, 112, 113, 114, 115] (by decide +kernel) (by decide +kernel)
set_option maxRecDepth 20000 in
theorem gX6_readItem_X6_readNumber : GoodIn wsX6_readItem (wsV RX6 55 RX6 yX6_readNumber wsX6_readNumber) := goodIn_app (goodIn_of _ (by decide +kernel)) ggX6_readItem_X6_readNumber
set_option maxRecDepth 20000 in
theorem ggX6_readItem_X10_within : GoodIn wsX6_readItem wsX10_within := goodIn_r _ [110] (by decide +kernel) (by decide +kernel)
set_option maxRecDepth 20000 in
theorem gX6_readItem_X10_within_n65 : GoodIn wsX6_readItem (wsX10_within) := ggX6_readItem_X10_within
theorem dX6_readItem_0 : decode cX6_readItem 0 = .ok (.ldc 45, 2) := by decide +kernel
theorem dX6_readItem_2 : decode cX6_readItem 2 = .ok (.aload_n 0, 1) := by decide +kernel
theorem dX6_readItem_3 : decode cX6_readItem 3 = .ok (.getfield 21, 3) := by decide +kernel
theorem dX6_readItem_6 : decode cX6_readItem 6 = .ok (.aload_n 0, 1) := by decide +kernel
theorem dX6_readItem_7 : decode cX6_readItem 7 = .ok (.getfield 17, 3) := by decide +kernel
theorem dX6_readItem_10 : decode cX6_readItem 10 = .ok (.invokevirtual 37, 3) := by decide +kernel
theorem dX6_readItem_13 : decode cX6_readItem 13 = .ok (.i2c, 1) := by decide +kernel
theorem dX6_readItem_14 : decode cX6_readItem 14 = .ok (.invokevirtual 47, 3) := by decide +kernel
theorem dX6_readItem_17 : decode cX6_readItem 17 = .ok (.istore_n 1, 1) := by decide +kernel
theorem dX6_readItem_18 : decode cX6_readItem 18 = .ok (.iload_n 1, 1) := by decide +kernel
theorem dX6_readItem_19 : decode cX6_readItem 19 = .ok (.ifCond .ge 5, 3) := by decide +kernel
theorem dX6_readItem_22 : decode cX6_readItem 22 = .ok (.iconst 0, 1) := by decide +kernel
theorem dX6_readItem_23 : decode cX6_readItem 23 = .ok (.ireturn, 1) := by decide +kernel
theorem dX6_readItem_24 : decode cX6_readItem 24 = .ok (.aload_n 0, 1) := by decide +kernel
theorem dX6_readItem_25 : decode cX6_readItem 25 = .ok (.dup, 1) := by decide +kernel
theorem dX6_readItem_26 : decode cX6_readItem 26 = .ok (.getfield 17, 3) := by decide +kernel
theorem dX6_readItem_29 : decode cX6_readItem 29 = .ok (.iconst 1, 1) := by decide +kernel
theorem dX6_readItem_30 : decode cX6_readItem 30 = .ok (.iadd, 1) := by decide +kernel
theorem dX6_readItem_31 : decode cX6_readItem 31 = .ok (.putfield 17, 3) := by decide +kernel
theorem dX6_readItem_34 : decode cX6_readItem 34 = .ok (.getstatic 52, 3) := by decide +kernel
theorem dX6_readItem_37 : decode cX6_readItem 37 = .ok (.iload_n 1, 1) := by decide +kernel
theorem dX6_readItem_38 : decode cX6_readItem 38 = .ok (.iaload, 1) := by decide +kernel
theorem dX6_readItem_39 : decode cX6_readItem 39 = .ok (.istore_n 2, 1) := by decide +kernel
theorem dX6_readItem_40 : decode cX6_readItem 40 = .ok (.getstatic 52, 3) := by decide +kernel
theorem dX6_readItem_43 : decode cX6_readItem 43 = .ok (.iload_n 1, 1) := by decide +kernel
theorem dX6_readItem_44 : decode cX6_readItem 44 = .ok (.iconst 1, 1) := by decide +kernel
theorem dX6_readItem_45 : decode cX6_readItem 45 = .ok (.iadd, 1) := by decide +kernel
theorem dX6_readItem_46 : decode cX6_readItem 46 = .ok (.iaload, 1) := by decide +kernel
theorem dX6_readItem_47 : decode cX6_readItem 47 = .ok (.istore_n 3, 1) := by decide +kernel
theorem dX6_readItem_48 : decode cX6_readItem 48 = .ok (.iload_n 2, 1) := by decide +kernel
theorem dX6_readItem_49 : decode cX6_readItem 49 = .ok (.istore 4, 2) := by decide +kernel
theorem dX6_readItem_51 : decode cX6_readItem 51 = .ok (.iload 4, 2) := by decide +kernel
theorem dX6_readItem_53 : decode cX6_readItem 53 = .ok (.iload_n 3, 1) := by decide +kernel
theorem dX6_readItem_54 : decode cX6_readItem 54 = .ok (.if_icmp .ge 89, 3) := by decide +kernel
theorem dX6_readItem_57 : decode cX6_readItem 57 = .ok (.aload_n 0, 1) := by decide +kernel
theorem dX6_readItem_58 : decode cX6_readItem 58 = .ok (.invokevirtual 55, 3) := by decide +kernel
theorem dX6_readItem_61 : decode cX6_readItem 61 = .ok (.istore 5, 2) := by decide +kernel
theorem dX6_readItem_63 : decode cX6_readItem 63 = .ok (.iload 5, 2) := by decide +kernel
theorem dX6_readItem_65 : decode cX6_readItem 65 = .ok (.getstatic 59, 3) := by decide +kernel
theorem dX6_readItem_68 : decode cX6_readItem 68 = .ok (.iload 4, 2) := by decide +kernel
theorem dX6_readItem_70 : decode cX6_readItem 70 = .ok (.iaload, 1) := by decide +kernel
theorem dX6_readItem_71 : decode cX6_readItem 71 = .ok (.getstatic 62, 3) := by decide +kernel
theorem dX6_readItem_74 : decode cX6_readItem 74 = .ok (.iload 4, 2) := by decide +kernel
theorem dX6_readItem_76 : decode cX6_readItem 76 = .ok (.iaload, 1) := by decide +kernel
theorem dX6_readItem_77 : decode cX6_readItem 77 = .ok (.invokestatic 65, 3) := by decide +kernel
theorem dX6_readItem_80 : decode cX6_readItem 80 = .ok (.ifCond .ne 5, 3) := by decide +kernel
theorem dX6_readItem_83 : decode cX6_readItem 83 = .ok (.iconst 0, 1) := by decide +kernel
theorem dX6_readItem_84 : decode cX6_readItem 84 = .ok (.ireturn, 1) := by decide +kernel
theorem dX6_readItem_85 : decode cX6_readItem 85 = .ok (.aload_n 0, 1) := by decide +kernel
theorem dX6_readItem_86 : decode cX6_readItem 86 = .ok (.getfield 21, 3) := by decide +kernel
theorem dX6_readItem_89 : decode cX6_readItem 89 = .ok (.aload_n 0, 1) := by decide +kernel
theorem dX6_readItem_90 : decode cX6_readItem 90 = .ok (.getfield 17, 3) := by decide +kernel
theorem dX6_readItem_93 : decode cX6_readItem 93 = .ok (.invokevirtual 37, 3) := by decide +kernel
theorem dX6_readItem_96 : decode cX6_readItem 96 = .ok (.iload 4, 2) := by decide +kernel
theorem dX6_readItem_98 : decode cX6_readItem 98 = .ok (.iload_n 3, 1) := by decide +kernel
theorem dX6_readItem_99 : decode cX6_readItem 99 = .ok (.iconst 1, 1) := by decide +kernel
theorem dX6_readItem_100 : decode cX6_readItem 100 = .ok (.isub, 1) := by decide +kernel
theorem dX6_readItem_101 : decode cX6_readItem 101 = .ok (.if_icmp .ne 8, 3) := by decide +kernel
theorem dX6_readItem_104 : decode cX6_readItem 104 = .ok (.bipush 59, 2) := by decide +kernel
theorem dX6_readItem_106 : decode cX6_readItem 106 = .ok (.goto 5, 3) := by decide +kernel
theorem dX6_readItem_109 : decode cX6_readItem 109 = .ok (.bipush 44, 2) := by decide +kernel
theorem dX6_readItem_111 : decode cX6_readItem 111 = .ok (.if_icmp .eq 5, 3) := by decide +kernel
theorem dX6_readItem_114 : decode cX6_readItem 114 = .ok (.iconst 0, 1) := by decide +kernel
theorem dX6_readItem_115 : decode cX6_readItem 115 = .ok (.ireturn, 1) := by decide +kernel
theorem dX6_readItem_116 : decode cX6_readItem 116 = .ok (.aload_n 0, 1) := by decide +kernel
theorem dX6_readItem_117 : decode cX6_readItem 117 = .ok (.dup, 1) := by decide +kernel
theorem dX6_readItem_118 : decode cX6_readItem 118 = .ok (.getfield 17, 3) := by decide +kernel
theorem dX6_readItem_121 : decode cX6_readItem 121 = .ok (.iconst 1, 1) := by decide +kernel
theorem dX6_readItem_122 : decode cX6_readItem 122 = .ok (.iadd, 1) := by decide +kernel
theorem dX6_readItem_123 : decode cX6_readItem 123 = .ok (.putfield 17, 3) := by decide +kernel
theorem dX6_readItem_126 : decode cX6_readItem 126 = .ok (.aload_n 0, 1) := by decide +kernel
theorem dX6_readItem_127 : decode cX6_readItem 127 = .ok (.getfield 11, 3) := by decide +kernel
theorem dX6_readItem_130 : decode cX6_readItem 130 = .ok (.iload 4, 2) := by decide +kernel
theorem dX6_readItem_132 : decode cX6_readItem 132 = .ok (.iload_n 2, 1) := by decide +kernel
theorem dX6_readItem_133 : decode cX6_readItem 133 = .ok (.isub, 1) := by decide +kernel
theorem dX6_readItem_134 : decode cX6_readItem 134 = .ok (.iload 5, 2) := by decide +kernel
theorem dX6_readItem_136 : decode cX6_readItem 136 = .ok (.iastore, 1) := by decide +kernel
theorem dX6_readItem_137 : decode cX6_readItem 137 = .ok (.iinc 4 1, 3) := by decide +kernel
theorem dX6_readItem_140 : decode cX6_readItem 140 = .ok (.goto (-89), 3) := by decide +kernel
theorem dX6_readItem_143 : decode cX6_readItem 143 = .ok (.iconst 1, 1) := by decide +kernel
theorem dX6_readItem_144 : decode cX6_readItem 144 = .ok (.ireturn, 1) := by decide +kernel
set_option maxRecDepth 20000 in
theorem ggX6_readNumber_X8_byteAt : GoodIn wsX6_readNumber wsX8_byteAt := goodIn_r _ [7, 8, 9, 16, 17] (by decide +kernel) (by decide +kernel)
set_option maxRecDepth 20000 in
theorem gX6_readNumber_X8_byteAt : GoodIn wsX6_readNumber (wsV RX6 37 RX8 yX8_byteAt wsX8_byteAt) := goodIn_app (goodIn_of _ (by decide +kernel)) ggX6_readNumber_X8_byteAt
set_option maxRecDepth 20000 in
theorem ggX6_readNumber_X10_within : GoodIn wsX6_readNumber wsX10_within := goodIn_r _ [12] (by decide +kernel) (by decide +kernel)
set_option maxRecDepth 20000 in
theorem gX6_readNumber_X10_within_n65 : GoodIn wsX6_readNumber (wsX10_within) := ggX6_readNumber_X10_within
theorem dX6_readNumber_0 : decode cX6_readNumber 0 = .ok (.iconst 0, 1) := by decide +kernel
theorem dX6_readNumber_1 : decode cX6_readNumber 1 = .ok (.istore_n 1, 1) := by decide +kernel
theorem dX6_readNumber_2 : decode cX6_readNumber 2 = .ok (.iconst 0, 1) := by decide +kernel
theorem dX6_readNumber_3 : decode cX6_readNumber 3 = .ok (.istore_n 2, 1) := by decide +kernel
theorem dX6_readNumber_4 : decode cX6_readNumber 4 = .ok (.iload_n 2, 1) := by decide +kernel
theorem dX6_readNumber_5 : decode cX6_readNumber 5 = .ok (.iconst 3, 1) := by decide +kernel
theorem dX6_readNumber_6 : decode cX6_readNumber 6 = .ok (.if_icmp .ge 60, 3) := by decide +kernel
theorem dX6_readNumber_9 : decode cX6_readNumber 9 = .ok (.aload_n 0, 1) := by decide +kernel
theorem dX6_readNumber_10 : decode cX6_readNumber 10 = .ok (.getfield 21, 3) := by decide +kernel
theorem dX6_readNumber_13 : decode cX6_readNumber 13 = .ok (.aload_n 0, 1) := by decide +kernel
theorem dX6_readNumber_14 : decode cX6_readNumber 14 = .ok (.getfield 17, 3) := by decide +kernel
theorem dX6_readNumber_17 : decode cX6_readNumber 17 = .ok (.invokevirtual 37, 3) := by decide +kernel
theorem dX6_readNumber_20 : decode cX6_readNumber 20 = .ok (.bipush 48, 2) := by decide +kernel
theorem dX6_readNumber_22 : decode cX6_readNumber 22 = .ok (.bipush 57, 2) := by decide +kernel
theorem dX6_readNumber_24 : decode cX6_readNumber 24 = .ok (.invokestatic 65, 3) := by decide +kernel
theorem dX6_readNumber_27 : decode cX6_readNumber 27 = .ok (.ifCond .eq 39, 3) := by decide +kernel
theorem dX6_readNumber_30 : decode cX6_readNumber 30 = .ok (.iload_n 1, 1) := by decide +kernel
theorem dX6_readNumber_31 : decode cX6_readNumber 31 = .ok (.bipush 10, 2) := by decide +kernel
theorem dX6_readNumber_33 : decode cX6_readNumber 33 = .ok (.imul, 1) := by decide +kernel
theorem dX6_readNumber_34 : decode cX6_readNumber 34 = .ok (.aload_n 0, 1) := by decide +kernel
theorem dX6_readNumber_35 : decode cX6_readNumber 35 = .ok (.getfield 21, 3) := by decide +kernel
theorem dX6_readNumber_38 : decode cX6_readNumber 38 = .ok (.aload_n 0, 1) := by decide +kernel
theorem dX6_readNumber_39 : decode cX6_readNumber 39 = .ok (.getfield 17, 3) := by decide +kernel
theorem dX6_readNumber_42 : decode cX6_readNumber 42 = .ok (.invokevirtual 37, 3) := by decide +kernel
theorem dX6_readNumber_45 : decode cX6_readNumber 45 = .ok (.iadd, 1) := by decide +kernel
theorem dX6_readNumber_46 : decode cX6_readNumber 46 = .ok (.bipush 48, 2) := by decide +kernel
theorem dX6_readNumber_48 : decode cX6_readNumber 48 = .ok (.isub, 1) := by decide +kernel
theorem dX6_readNumber_49 : decode cX6_readNumber 49 = .ok (.istore_n 1, 1) := by decide +kernel
theorem dX6_readNumber_50 : decode cX6_readNumber 50 = .ok (.iinc 2 1, 3) := by decide +kernel
theorem dX6_readNumber_53 : decode cX6_readNumber 53 = .ok (.aload_n 0, 1) := by decide +kernel
theorem dX6_readNumber_54 : decode cX6_readNumber 54 = .ok (.dup, 1) := by decide +kernel
theorem dX6_readNumber_55 : decode cX6_readNumber 55 = .ok (.getfield 17, 3) := by decide +kernel
theorem dX6_readNumber_58 : decode cX6_readNumber 58 = .ok (.iconst 1, 1) := by decide +kernel
theorem dX6_readNumber_59 : decode cX6_readNumber 59 = .ok (.iadd, 1) := by decide +kernel
theorem dX6_readNumber_60 : decode cX6_readNumber 60 = .ok (.putfield 17, 3) := by decide +kernel
theorem dX6_readNumber_63 : decode cX6_readNumber 63 = .ok (.goto (-59), 3) := by decide +kernel
theorem dX6_readNumber_66 : decode cX6_readNumber 66 = .ok (.iload_n 2, 1) := by decide +kernel
theorem dX6_readNumber_67 : decode cX6_readNumber 67 = .ok (.ifCond .ne 7, 3) := by decide +kernel
theorem dX6_readNumber_70 : decode cX6_readNumber 70 = .ok (.iconst (-1), 1) := by decide +kernel
theorem dX6_readNumber_71 : decode cX6_readNumber 71 = .ok (.goto 4, 3) := by decide +kernel
theorem dX6_readNumber_74 : decode cX6_readNumber 74 = .ok (.iload_n 1, 1) := by decide +kernel
theorem dX6_readNumber_75 : decode cX6_readNumber 75 = .ok (.ireturn, 1) := by decide +kernel
set_option maxRecDepth 20000 in
theorem ggX7_init_X3_isSeenFrom : GoodIn wsX7_init wsX3_isSeenFrom := goodIn_r _ [11, 12, 13, 14, 15, 16, 17, 18] (by decide +kernel) (by decide +kernel)
set_option maxRecDepth 20000 in
theorem gX7_init_X3_isSeenFrom_n25 : GoodIn wsX7_init (wsX3_isSeenFrom) := ggX7_init_X3_isSeenFrom
theorem dX7_init_0 : decode cX7_init 0 = .ok (.aload_n 0, 1) := by decide +kernel
theorem dX7_init_1 : decode cX7_init 1 = .ok (.invokespecial 1, 3) := by decide +kernel
theorem dX7_init_4 : decode cX7_init 4 = .ok (.aload_n 0, 1) := by decide +kernel
theorem dX7_init_5 : decode cX7_init 5 = .ok (.bipush 12, 2) := by decide +kernel
theorem dX7_init_7 : decode cX7_init 7 = .ok (.newarray .int, 2) := by decide +kernel
theorem dX7_init_9 : decode cX7_init 9 = .ok (.putfield 9, 3) := by decide +kernel
theorem dX7_init_12 : decode cX7_init 12 = .ok (.aload_n 0, 1) := by decide +kernel
theorem dX7_init_13 : decode cX7_init 13 = .ok (.bipush 12, 2) := by decide +kernel
theorem dX7_init_15 : decode cX7_init 15 = .ok (.newarray .int, 2) := by decide +kernel
theorem dX7_init_17 : decode cX7_init 17 = .ok (.putfield 15, 3) := by decide +kernel
theorem dX7_init_20 : decode cX7_init 20 = .ok (.aload_n 0, 1) := by decide +kernel
theorem dX7_init_21 : decode cX7_init 21 = .ok (.iconst 5, 1) := by decide +kernel
theorem dX7_init_22 : decode cX7_init 22 = .ok (.newarray .int, 2) := by decide +kernel
theorem dX7_init_24 : decode cX7_init 24 = .ok (.putfield 18, 3) := by decide +kernel
theorem dX7_init_27 : decode cX7_init 27 = .ok (.aload_n 0, 1) := by decide +kernel
theorem dX7_init_28 : decode cX7_init 28 = .ok (.aload_n 1, 1) := by decide +kernel
theorem dX7_init_29 : decode cX7_init 29 = .ok (.putfield 21, 3) := by decide +kernel
theorem dX7_init_32 : decode cX7_init 32 = .ok (.iconst 0, 1) := by decide +kernel
theorem dX7_init_33 : decode cX7_init 33 = .ok (.istore_n 2, 1) := by decide +kernel
theorem dX7_init_34 : decode cX7_init 34 = .ok (.iload_n 2, 1) := by decide +kernel
theorem dX7_init_35 : decode cX7_init 35 = .ok (.bipush 12, 2) := by decide +kernel
theorem dX7_init_37 : decode cX7_init 37 = .ok (.if_icmp .ge 47, 3) := by decide +kernel
theorem dX7_init_40 : decode cX7_init 40 = .ok (.iconst 0, 1) := by decide +kernel
theorem dX7_init_41 : decode cX7_init 41 = .ok (.istore_n 3, 1) := by decide +kernel
theorem dX7_init_42 : decode cX7_init 42 = .ok (.iload_n 3, 1) := by decide +kernel
theorem dX7_init_43 : decode cX7_init 43 = .ok (.bipush 12, 2) := by decide +kernel
theorem dX7_init_45 : decode cX7_init 45 = .ok (.if_icmp .ge 33, 3) := by decide +kernel
theorem dX7_init_48 : decode cX7_init 48 = .ok (.aload_n 0, 1) := by decide +kernel
theorem dX7_init_49 : decode cX7_init 49 = .ok (.getfield 15, 3) := by decide +kernel
theorem dX7_init_52 : decode cX7_init 52 = .ok (.iload_n 2, 1) := by decide +kernel
theorem dX7_init_53 : decode cX7_init 53 = .ok (.dup2, 1) := by decide +kernel
theorem dX7_init_54 : decode cX7_init 54 = .ok (.iaload, 1) := by decide +kernel
theorem dX7_init_55 : decode cX7_init 55 = .ok (.iload_n 3, 1) := by decide +kernel
theorem dX7_init_56 : decode cX7_init 56 = .ok (.iload_n 2, 1) := by decide +kernel
theorem dX7_init_57 : decode cX7_init 57 = .ok (.invokestatic 25, 3) := by decide +kernel
theorem dX7_init_60 : decode cX7_init 60 = .ok (.ifCond .eq 9, 3) := by decide +kernel
theorem dX7_init_63 : decode cX7_init 63 = .ok (.iconst 1, 1) := by decide +kernel
theorem dX7_init_64 : decode cX7_init 64 = .ok (.iload_n 3, 1) := by decide +kernel
theorem dX7_init_65 : decode cX7_init 65 = .ok (.ishl, 1) := by decide +kernel
theorem dX7_init_66 : decode cX7_init 66 = .ok (.goto 4, 3) := by decide +kernel
theorem dX7_init_69 : decode cX7_init 69 = .ok (.iconst 0, 1) := by decide +kernel
theorem dX7_init_70 : decode cX7_init 70 = .ok (.ior, 1) := by decide +kernel
theorem dX7_init_71 : decode cX7_init 71 = .ok (.iastore, 1) := by decide +kernel
theorem dX7_init_72 : decode cX7_init 72 = .ok (.iinc 3 1, 3) := by decide +kernel
theorem dX7_init_75 : decode cX7_init 75 = .ok (.goto (-33), 3) := by decide +kernel
theorem dX7_init_78 : decode cX7_init 78 = .ok (.iinc 2 1, 3) := by decide +kernel
theorem dX7_init_81 : decode cX7_init 81 = .ok (.goto (-47), 3) := by decide +kernel
theorem dX7_init_84 : decode cX7_init 84 = .ok (.return_, 1) := by decide +kernel
set_option maxRecDepth 20000 in
theorem ggX7_choose_X7_countShown : GoodIn wsX7_choose wsX7_countShown := goodIn_r _ [6, 7, 8, 9, 10, 11, 12, 13, 14, 15, 16, 17, 18, 19, 20, 21, 22, 23, 24, 37, 38, 39, 40, 41, 42, 43, 44, 45, 46, 47, 48, 49, 50, 51, 52, 53] (by decide +kernel) (by decide +kernel)
set_option maxRecDepth 20000 in
theorem gX7_choose_X7_countShown : GoodIn wsX7_choose (wsV RX7 29 RX7 yX7_countShown wsX7_countShown) := goodIn_app (goodIn_of _ (by decide +kernel)) ggX7_choose_X7_countShown
set_option maxRecDepth 20000 in
theorem ggX7_choose_X7_tryThree : GoodIn wsX7_choose wsX7_tryThree := goodIn_r _ [28, 7, 29, 1, 30, 31, 32, 33, 34, 35, 36, 37, 38, 39, 40] (by decide +kernel) (by decide +kernel)
set_option maxRecDepth 20000 in
theorem gX7_choose_X7_tryThree : GoodIn wsX7_choose (wsV RX7 32 RX7 yX7_tryThree wsX7_tryThree) := goodIn_app (goodIn_of _ (by decide +kernel)) ggX7_choose_X7_tryThree
theorem dX7_choose_0 : decode cX7_choose 0 = .ok (.aload_n 0, 1) := by decide +kernel
theorem dX7_choose_1 : decode cX7_choose 1 = .ok (.invokevirtual 29, 3) := by decide +kernel
theorem dX7_choose_4 : decode cX7_choose 4 = .ok (.aload_n 0, 1) := by decide +kernel
theorem dX7_choose_5 : decode cX7_choose 5 = .ok (.getfield 18, 3) := by decide +kernel
theorem dX7_choose_8 : decode cX7_choose 8 = .ok (.iconst 3, 1) := by decide +kernel
theorem dX7_choose_9 : decode cX7_choose 9 = .ok (.bipush 41, 2) := by decide +kernel
theorem dX7_choose_11 : decode cX7_choose 11 = .ok (.iastore, 1) := by decide +kernel
theorem dX7_choose_12 : decode cX7_choose 12 = .ok (.iconst 0, 1) := by decide +kernel
theorem dX7_choose_13 : decode cX7_choose 13 = .ok (.istore_n 1, 1) := by decide +kernel
theorem dX7_choose_14 : decode cX7_choose 14 = .ok (.iload_n 1, 1) := by decide +kernel
theorem dX7_choose_15 : decode cX7_choose 15 = .ok (.bipush 12, 2) := by decide +kernel
theorem dX7_choose_17 : decode cX7_choose 17 = .ok (.if_icmp .ge 48, 3) := by decide +kernel
theorem dX7_choose_20 : decode cX7_choose 20 = .ok (.iload_n 1, 1) := by decide +kernel
theorem dX7_choose_21 : decode cX7_choose 21 = .ok (.iconst 1, 1) := by decide +kernel
theorem dX7_choose_22 : decode cX7_choose 22 = .ok (.iadd, 1) := by decide +kernel
theorem dX7_choose_23 : decode cX7_choose 23 = .ok (.istore_n 2, 1) := by decide +kernel
theorem dX7_choose_24 : decode cX7_choose 24 = .ok (.iload_n 2, 1) := by decide +kernel
theorem dX7_choose_25 : decode cX7_choose 25 = .ok (.bipush 12, 2) := by decide +kernel
theorem dX7_choose_27 : decode cX7_choose 27 = .ok (.if_icmp .ge 32, 3) := by decide +kernel
theorem dX7_choose_30 : decode cX7_choose 30 = .ok (.iload_n 2, 1) := by decide +kernel
theorem dX7_choose_31 : decode cX7_choose 31 = .ok (.iconst 1, 1) := by decide +kernel
theorem dX7_choose_32 : decode cX7_choose 32 = .ok (.iadd, 1) := by decide +kernel
theorem dX7_choose_33 : decode cX7_choose 33 = .ok (.istore_n 3, 1) := by decide +kernel
theorem dX7_choose_34 : decode cX7_choose 34 = .ok (.iload_n 3, 1) := by decide +kernel
theorem dX7_choose_35 : decode cX7_choose 35 = .ok (.bipush 12, 2) := by decide +kernel
theorem dX7_choose_37 : decode cX7_choose 37 = .ok (.if_icmp .ge 16, 3) := by decide +kernel
theorem dX7_choose_40 : decode cX7_choose 40 = .ok (.aload_n 0, 1) := by decide +kernel
theorem dX7_choose_41 : decode cX7_choose 41 = .ok (.iload_n 1, 1) := by decide +kernel
theorem dX7_choose_42 : decode cX7_choose 42 = .ok (.iload_n 2, 1) := by decide +kernel
theorem dX7_choose_43 : decode cX7_choose 43 = .ok (.iload_n 3, 1) := by decide +kernel
theorem dX7_choose_44 : decode cX7_choose 44 = .ok (.invokevirtual 32, 3) := by decide +kernel
theorem dX7_choose_47 : decode cX7_choose 47 = .ok (.iinc 3 1, 3) := by decide +kernel
theorem dX7_choose_50 : decode cX7_choose 50 = .ok (.goto (-16), 3) := by decide +kernel
theorem dX7_choose_53 : decode cX7_choose 53 = .ok (.iinc 2 1, 3) := by decide +kernel
theorem dX7_choose_56 : decode cX7_choose 56 = .ok (.goto (-32), 3) := by decide +kernel
theorem dX7_choose_59 : decode cX7_choose 59 = .ok (.iinc 1 1, 3) := by decide +kernel
theorem dX7_choose_62 : decode cX7_choose 62 = .ok (.goto (-48), 3) := by decide +kernel
theorem dX7_choose_65 : decode cX7_choose 65 = .ok (.return_, 1) := by decide +kernel
set_option maxRecDepth 20000 in
theorem ggX7_countShown_J7_fill_53178 : GoodIn wsX7_countShown wsJ7_fill_53178 := goodIn_r _ [6] (by decide +kernel) (by decide +kernel)
set_option maxRecDepth 20000 in
theorem gX7_countShown_J7_fill_53178 : GoodIn wsX7_countShown (va_wsS RX7 36 yJ7_fill_53178 wsJ7_fill_53178) := goodIn_app (goodIn_of _ (by decide +kernel)) ggX7_countShown_J7_fill_53178
set_option maxRecDepth 20000 in
theorem ggX7_countShown_X3_isInRounds : GoodIn wsX7_countShown wsX3_isInRounds := goodIn_r _ [11, 12, 13, 14, 15, 10, 16, 17, 23, 24, 25, 26, 27, 28, 29, 30, 31, 32, 33, 34, 35] (by decide +kernel) (by decide +kernel)
set_option maxRecDepth 20000 in
theorem gX7_countShown_X3_isInRounds : GoodIn wsX7_countShown (wsV RX7 46 RX3 yX3_isInRounds wsX3_isInRounds) := goodIn_app (goodIn_of _ (by decide +kernel)) ggX7_countShown_X3_isInRounds
set_option maxRecDepth 20000 in
theorem ggX7_countShown_X3_blowPart : GoodIn wsX7_countShown wsX3_blowPart := goodIn_r _ [16, 17, 23, 24, 25, 26, 27, 28, 29, 30, 31, 32, 33, 34, 35] (by decide +kernel) (by decide +kernel)
set_option maxRecDepth 20000 in
theorem gX7_countShown_X3_blowPart : GoodIn wsX7_countShown (wsV RX7 50 RX3 yX3_blowPart wsX3_blowPart) := goodIn_app (goodIn_of _ (by decide +kernel)) ggX7_countShown_X3_blowPart
theorem dX7_countShown_0 : decode cX7_countShown 0 = .ok (.aload_n 0, 1) := by decide +kernel
theorem dX7_countShown_1 : decode cX7_countShown 1 = .ok (.getfield 9, 3) := by decide +kernel
theorem dX7_countShown_4 : decode cX7_countShown 4 = .ok (.iconst 0, 1) := by decide +kernel
theorem dX7_countShown_5 : decode cX7_countShown 5 = .ok (.invokestatic 36, 3) := by decide +kernel
theorem dX7_countShown_8 : decode cX7_countShown 8 = .ok (.iconst 0, 1) := by decide +kernel
theorem dX7_countShown_9 : decode cX7_countShown 9 = .ok (.istore_n 1, 1) := by decide +kernel
theorem dX7_countShown_10 : decode cX7_countShown 10 = .ok (.iload_n 1, 1) := by decide +kernel
theorem dX7_countShown_11 : decode cX7_countShown 11 = .ok (.aload_n 0, 1) := by decide +kernel
theorem dX7_countShown_12 : decode cX7_countShown 12 = .ok (.getfield 21, 3) := by decide +kernel
theorem dX7_countShown_15 : decode cX7_countShown 15 = .ok (.getfield 42, 3) := by decide +kernel
theorem dX7_countShown_18 : decode cX7_countShown 18 = .ok (.if_icmp .ge 38, 3) := by decide +kernel
theorem dX7_countShown_21 : decode cX7_countShown 21 = .ok (.aload_n 0, 1) := by decide +kernel
theorem dX7_countShown_22 : decode cX7_countShown 22 = .ok (.getfield 21, 3) := by decide +kernel
theorem dX7_countShown_25 : decode cX7_countShown 25 = .ok (.iload_n 1, 1) := by decide +kernel
theorem dX7_countShown_26 : decode cX7_countShown 26 = .ok (.invokevirtual 46, 3) := by decide +kernel
theorem dX7_countShown_29 : decode cX7_countShown 29 = .ok (.ifCond .eq 21, 3) := by decide +kernel
theorem dX7_countShown_32 : decode cX7_countShown 32 = .ok (.aload_n 0, 1) := by decide +kernel
theorem dX7_countShown_33 : decode cX7_countShown 33 = .ok (.getfield 9, 3) := by decide +kernel
theorem dX7_countShown_36 : decode cX7_countShown 36 = .ok (.aload_n 0, 1) := by decide +kernel
theorem dX7_countShown_37 : decode cX7_countShown 37 = .ok (.getfield 21, 3) := by decide +kernel
theorem dX7_countShown_40 : decode cX7_countShown 40 = .ok (.iload_n 1, 1) := by decide +kernel
theorem dX7_countShown_41 : decode cX7_countShown 41 = .ok (.iconst 4, 1) := by decide +kernel
theorem dX7_countShown_42 : decode cX7_countShown 42 = .ok (.invokevirtual 50, 3) := by decide +kernel
theorem dX7_countShown_45 : decode cX7_countShown 45 = .ok (.dup2, 1) := by decide +kernel
theorem dX7_countShown_46 : decode cX7_countShown 46 = .ok (.iaload, 1) := by decide +kernel
theorem dX7_countShown_47 : decode cX7_countShown 47 = .ok (.iconst 1, 1) := by decide +kernel
theorem dX7_countShown_48 : decode cX7_countShown 48 = .ok (.iadd, 1) := by decide +kernel
theorem dX7_countShown_49 : decode cX7_countShown 49 = .ok (.iastore, 1) := by decide +kernel
theorem dX7_countShown_50 : decode cX7_countShown 50 = .ok (.iinc 1 1, 3) := by decide +kernel
theorem dX7_countShown_53 : decode cX7_countShown 53 = .ok (.goto (-43), 3) := by decide +kernel
theorem dX7_countShown_56 : decode cX7_countShown 56 = .ok (.return_, 1) := by decide +kernel
set_option maxRecDepth 20000 in
theorem ggX7_tryThree_J6_bitCount_0f7a4 : GoodIn wsX7_tryThree wsJ6_bitCount_0f7a4 := goodIn_r _ [7, 8, 9, 10] (by decide +kernel) (by decide +kernel)
set_option maxRecDepth 20000 in
theorem gX7_tryThree_J6_bitCount_0f7a4 : GoodIn wsX7_tryThree (va_wsS RX7 54 yJ6_bitCount_0f7a4 wsJ6_bitCount_0f7a4) := goodIn_app (goodIn_of _ (by decide +kernel)) ggX7_tryThree_J6_bitCount_0f7a4
theorem dX7_tryThree_0 : decode cX7_tryThree 0 = .ok (.iconst 1, 1) := by decide +kernel
theorem dX7_tryThree_1 : decode cX7_tryThree 1 = .ok (.iload_n 1, 1) := by decide +kernel
theorem dX7_tryThree_2 : decode cX7_tryThree 2 = .ok (.ishl, 1) := by decide +kernel
theorem dX7_tryThree_3 : decode cX7_tryThree 3 = .ok (.iconst 1, 1) := by decide +kernel
theorem dX7_tryThree_4 : decode cX7_tryThree 4 = .ok (.iload_n 2, 1) := by decide +kernel
theorem dX7_tryThree_5 : decode cX7_tryThree 5 = .ok (.ishl, 1) := by decide +kernel
theorem dX7_tryThree_6 : decode cX7_tryThree 6 = .ok (.ior, 1) := by decide +kernel
theorem dX7_tryThree_7 : decode cX7_tryThree 7 = .ok (.iconst 1, 1) := by decide +kernel
theorem dX7_tryThree_8 : decode cX7_tryThree 8 = .ok (.iload_n 3, 1) := by decide +kernel
theorem dX7_tryThree_9 : decode cX7_tryThree 9 = .ok (.ishl, 1) := by decide +kernel
theorem dX7_tryThree_10 : decode cX7_tryThree 10 = .ok (.ior, 1) := by decide +kernel
theorem dX7_tryThree_11 : decode cX7_tryThree 11 = .ok (.istore 4, 2) := by decide +kernel
theorem dX7_tryThree_13 : decode cX7_tryThree 13 = .ok (.iconst 0, 1) := by decide +kernel
theorem dX7_tryThree_14 : decode cX7_tryThree 14 = .ok (.istore 5, 2) := by decide +kernel
theorem dX7_tryThree_16 : decode cX7_tryThree 16 = .ok (.iconst 0, 1) := by decide +kernel
theorem dX7_tryThree_17 : decode cX7_tryThree 17 = .ok (.istore 6, 2) := by decide +kernel
theorem dX7_tryThree_19 : decode cX7_tryThree 19 = .ok (.iconst 0, 1) := by decide +kernel
theorem dX7_tryThree_20 : decode cX7_tryThree 20 = .ok (.istore 7, 2) := by decide +kernel
theorem dX7_tryThree_22 : decode cX7_tryThree 22 = .ok (.iload 7, 2) := by decide +kernel
theorem dX7_tryThree_24 : decode cX7_tryThree 24 = .ok (.bipush 12, 2) := by decide +kernel
theorem dX7_tryThree_26 : decode cX7_tryThree 26 = .ok (.if_icmp .ge 78, 3) := by decide +kernel
theorem dX7_tryThree_29 : decode cX7_tryThree 29 = .ok (.aload_n 0, 1) := by decide +kernel
theorem dX7_tryThree_30 : decode cX7_tryThree 30 = .ok (.getfield 9, 3) := by decide +kernel
theorem dX7_tryThree_33 : decode cX7_tryThree 33 = .ok (.iload 7, 2) := by decide +kernel
theorem dX7_tryThree_35 : decode cX7_tryThree 35 = .ok (.iaload, 1) := by decide +kernel
theorem dX7_tryThree_36 : decode cX7_tryThree 36 = .ok (.ifCond .le 62, 3) := by decide +kernel
theorem dX7_tryThree_39 : decode cX7_tryThree 39 = .ok (.iload 4, 2) := by decide +kernel
theorem dX7_tryThree_41 : decode cX7_tryThree 41 = .ok (.aload_n 0, 1) := by decide +kernel
theorem dX7_tryThree_42 : decode cX7_tryThree 42 = .ok (.getfield 15, 3) := by decide +kernel
theorem dX7_tryThree_45 : decode cX7_tryThree 45 = .ok (.iload 7, 2) := by decide +kernel
theorem dX7_tryThree_47 : decode cX7_tryThree 47 = .ok (.iaload, 1) := by decide +kernel
theorem dX7_tryThree_48 : decode cX7_tryThree 48 = .ok (.iand, 1) := by decide +kernel
theorem dX7_tryThree_49 : decode cX7_tryThree 49 = .ok (.invokestatic 54, 3) := by decide +kernel
theorem dX7_tryThree_52 : decode cX7_tryThree 52 = .ok (.istore 8, 2) := by decide +kernel
theorem dX7_tryThree_54 : decode cX7_tryThree 54 = .ok (.iload 5, 2) := by decide +kernel
theorem dX7_tryThree_56 : decode cX7_tryThree 56 = .ok (.iload 8, 2) := by decide +kernel
theorem dX7_tryThree_58 : decode cX7_tryThree 58 = .ok (.iconst 2, 1) := by decide +kernel
theorem dX7_tryThree_59 : decode cX7_tryThree 59 = .ok (.if_icmp .ge 13, 3) := by decide +kernel
theorem dX7_tryThree_62 : decode cX7_tryThree 62 = .ok (.aload_n 0, 1) := by decide +kernel
theorem dX7_tryThree_63 : decode cX7_tryThree 63 = .ok (.getfield 9, 3) := by decide +kernel
theorem dX7_tryThree_66 : decode cX7_tryThree 66 = .ok (.iload 7, 2) := by decide +kernel
theorem dX7_tryThree_68 : decode cX7_tryThree 68 = .ok (.iaload, 1) := by decide +kernel
theorem dX7_tryThree_69 : decode cX7_tryThree 69 = .ok (.goto 4, 3) := by decide +kernel
theorem dX7_tryThree_72 : decode cX7_tryThree 72 = .ok (.iconst 0, 1) := by decide +kernel
theorem dX7_tryThree_73 : decode cX7_tryThree 73 = .ok (.iadd, 1) := by decide +kernel
theorem dX7_tryThree_74 : decode cX7_tryThree 74 = .ok (.istore 5, 2) := by decide +kernel
theorem dX7_tryThree_76 : decode cX7_tryThree 76 = .ok (.iload 6, 2) := by decide +kernel
theorem dX7_tryThree_78 : decode cX7_tryThree 78 = .ok (.iload 8, 2) := by decide +kernel
theorem dX7_tryThree_80 : decode cX7_tryThree 80 = .ok (.iconst 1, 1) := by decide +kernel
theorem dX7_tryThree_81 : decode cX7_tryThree 81 = .ok (.if_icmp .ge 13, 3) := by decide +kernel
theorem dX7_tryThree_84 : decode cX7_tryThree 84 = .ok (.aload_n 0, 1) := by decide +kernel
theorem dX7_tryThree_85 : decode cX7_tryThree 85 = .ok (.getfield 9, 3) := by decide +kernel
theorem dX7_tryThree_88 : decode cX7_tryThree 88 = .ok (.iload 7, 2) := by decide +kernel
theorem dX7_tryThree_90 : decode cX7_tryThree 90 = .ok (.iaload, 1) := by decide +kernel
theorem dX7_tryThree_91 : decode cX7_tryThree 91 = .ok (.goto 4, 3) := by decide +kernel
theorem dX7_tryThree_94 : decode cX7_tryThree 94 = .ok (.iconst 0, 1) := by decide +kernel
theorem dX7_tryThree_95 : decode cX7_tryThree 95 = .ok (.iadd, 1) := by decide +kernel
theorem dX7_tryThree_96 : decode cX7_tryThree 96 = .ok (.istore 6, 2) := by decide +kernel
theorem dX7_tryThree_98 : decode cX7_tryThree 98 = .ok (.iinc 7 1, 3) := by decide +kernel
theorem dX7_tryThree_101 : decode cX7_tryThree 101 = .ok (.goto (-79), 3) := by decide +kernel
theorem dX7_tryThree_104 : decode cX7_tryThree 104 = .ok (.iload 5, 2) := by decide +kernel
theorem dX7_tryThree_106 : decode cX7_tryThree 106 = .ok (.aload_n 0, 1) := by decide +kernel
theorem dX7_tryThree_107 : decode cX7_tryThree 107 = .ok (.getfield 18, 3) := by decide +kernel
theorem dX7_tryThree_110 : decode cX7_tryThree 110 = .ok (.iconst 3, 1) := by decide +kernel
theorem dX7_tryThree_111 : decode cX7_tryThree 111 = .ok (.iaload, 1) := by decide +kernel
theorem dX7_tryThree_112 : decode cX7_tryThree 112 = .ok (.if_icmp .lt 25, 3) := by decide +kernel
theorem dX7_tryThree_115 : decode cX7_tryThree 115 = .ok (.iload 5, 2) := by decide +kernel
theorem dX7_tryThree_117 : decode cX7_tryThree 117 = .ok (.aload_n 0, 1) := by decide +kernel
theorem dX7_tryThree_118 : decode cX7_tryThree 118 = .ok (.getfield 18, 3) := by decide +kernel
theorem dX7_tryThree_121 : decode cX7_tryThree 121 = .ok (.iconst 3, 1) := by decide +kernel
theorem dX7_tryThree_122 : decode cX7_tryThree 122 = .ok (.iaload, 1) := by decide +kernel
theorem dX7_tryThree_123 : decode cX7_tryThree 123 = .ok (.if_icmp .ne 51, 3) := by decide +kernel
theorem dX7_tryThree_126 : decode cX7_tryThree 126 = .ok (.iload 6, 2) := by decide +kernel
theorem dX7_tryThree_128 : decode cX7_tryThree 128 = .ok (.aload_n 0, 1) := by decide +kernel
theorem dX7_tryThree_129 : decode cX7_tryThree 129 = .ok (.getfield 18, 3) := by decide +kernel
theorem dX7_tryThree_132 : decode cX7_tryThree 132 = .ok (.iconst 4, 1) := by decide +kernel
theorem dX7_tryThree_133 : decode cX7_tryThree 133 = .ok (.iaload, 1) := by decide +kernel
theorem dX7_tryThree_134 : decode cX7_tryThree 134 = .ok (.if_icmp .ge 40, 3) := by decide +kernel
theorem dX7_tryThree_137 : decode cX7_tryThree 137 = .ok (.aload_n 0, 1) := by decide +kernel
theorem dX7_tryThree_138 : decode cX7_tryThree 138 = .ok (.getfield 18, 3) := by decide +kernel
theorem dX7_tryThree_141 : decode cX7_tryThree 141 = .ok (.iconst 0, 1) := by decide +kernel
theorem dX7_tryThree_142 : decode cX7_tryThree 142 = .ok (.iload_n 1, 1) := by decide +kernel
theorem dX7_tryThree_143 : decode cX7_tryThree 143 = .ok (.iastore, 1) := by decide +kernel
theorem dX7_tryThree_144 : decode cX7_tryThree 144 = .ok (.aload_n 0, 1) := by decide +kernel
theorem dX7_tryThree_145 : decode cX7_tryThree 145 = .ok (.getfield 18, 3) := by decide +kernel
theorem dX7_tryThree_148 : decode cX7_tryThree 148 = .ok (.iconst 1, 1) := by decide +kernel
theorem dX7_tryThree_149 : decode cX7_tryThree 149 = .ok (.iload_n 2, 1) := by decide +kernel
theorem dX7_tryThree_150 : decode cX7_tryThree 150 = .ok (.iastore, 1) := by decide +kernel
theorem dX7_tryThree_151 : decode cX7_tryThree 151 = .ok (.aload_n 0, 1) := by decide +kernel
theorem dX7_tryThree_152 : decode cX7_tryThree 152 = .ok (.getfield 18, 3) := by decide +kernel
theorem dX7_tryThree_155 : decode cX7_tryThree 155 = .ok (.iconst 2, 1) := by decide +kernel
theorem dX7_tryThree_156 : decode cX7_tryThree 156 = .ok (.iload_n 3, 1) := by decide +kernel
theorem dX7_tryThree_157 : decode cX7_tryThree 157 = .ok (.iastore, 1) := by decide +kernel
theorem dX7_tryThree_158 : decode cX7_tryThree 158 = .ok (.aload_n 0, 1) := by decide +kernel
theorem dX7_tryThree_159 : decode cX7_tryThree 159 = .ok (.getfield 18, 3) := by decide +kernel
theorem dX7_tryThree_162 : decode cX7_tryThree 162 = .ok (.iconst 3, 1) := by decide +kernel
theorem dX7_tryThree_163 : decode cX7_tryThree 163 = .ok (.iload 5, 2) := by decide +kernel
theorem dX7_tryThree_165 : decode cX7_tryThree 165 = .ok (.iastore, 1) := by decide +kernel
theorem dX7_tryThree_166 : decode cX7_tryThree 166 = .ok (.aload_n 0, 1) := by decide +kernel
theorem dX7_tryThree_167 : decode cX7_tryThree 167 = .ok (.getfield 18, 3) := by decide +kernel
theorem dX7_tryThree_170 : decode cX7_tryThree 170 = .ok (.iconst 4, 1) := by decide +kernel
theorem dX7_tryThree_171 : decode cX7_tryThree 171 = .ok (.iload 6, 2) := by decide +kernel
theorem dX7_tryThree_173 : decode cX7_tryThree 173 = .ok (.iastore, 1) := by decide +kernel
theorem dX7_tryThree_174 : decode cX7_tryThree 174 = .ok (.return_, 1) := by decide +kernel
theorem dX8_init_0 : decode cX8_init 0 = .ok (.aload_n 0, 1) := by decide +kernel
theorem dX8_init_1 : decode cX8_init 1 = .ok (.invokespecial 1, 3) := by decide +kernel
theorem dX8_init_4 : decode cX8_init 4 = .ok (.aload_n 0, 1) := by decide +kernel
theorem dX8_init_5 : decode cX8_init 5 = .ok (.sipush 500, 3) := by decide +kernel
theorem dX8_init_8 : decode cX8_init 8 = .ok (.newarray .byte, 2) := by decide +kernel
theorem dX8_init_10 : decode cX8_init 10 = .ok (.putfield 9, 3) := by decide +kernel
theorem dX8_init_13 : decode cX8_init 13 = .ok (.aload_n 0, 1) := by decide +kernel
theorem dX8_init_14 : decode cX8_init 14 = .ok (.iconst 0, 1) := by decide +kernel
theorem dX8_init_15 : decode cX8_init 15 = .ok (.putfield 13, 3) := by decide +kernel
theorem dX8_init_18 : decode cX8_init 18 = .ok (.return_, 1) := by decide +kernel
theorem dX8_append_0 : decode cX8_append 0 = .ok (.iload_n 1, 1) := by decide +kernel
theorem dX8_append_1 : decode cX8_append 1 = .ok (.sipush 500, 3) := by decide +kernel
theorem dX8_append_4 : decode cX8_append 4 = .ok (.aload_n 0, 1) := by decide +kernel
theorem dX8_append_5 : decode cX8_append 5 = .ok (.getfield 13, 3) := by decide +kernel
theorem dX8_append_8 : decode cX8_append 8 = .ok (.isub, 1) := by decide +kernel
theorem dX8_append_9 : decode cX8_append 9 = .ok (.if_icmp .le 5, 3) := by decide +kernel
theorem dX8_append_12 : decode cX8_append 12 = .ok (.iconst 0, 1) := by decide +kernel
theorem dX8_append_13 : decode cX8_append 13 = .ok (.ireturn, 1) := by decide +kernel
theorem dX8_append_14 : decode cX8_append 14 = .ok (.iload_n 1, 1) := by decide +kernel
theorem dX8_append_15 : decode cX8_append 15 = .ok (.iconst 1, 1) := by decide +kernel
theorem dX8_append_16 : decode cX8_append 16 = .ok (.isub, 1) := by decide +kernel
theorem dX8_append_17 : decode cX8_append 17 = .ok (.istore 4, 2) := by decide +kernel
theorem dX8_append_19 : decode cX8_append 19 = .ok (.iload 4, 2) := by decide +kernel
theorem dX8_append_21 : decode cX8_append 21 = .ok (.ifCond .lt 37, 3) := by decide +kernel
theorem dX8_append_24 : decode cX8_append 24 = .ok (.aload_n 0, 1) := by decide +kernel
theorem dX8_append_25 : decode cX8_append 25 = .ok (.getfield 9, 3) := by decide +kernel
theorem dX8_append_28 : decode cX8_append 28 = .ok (.aload_n 0, 1) := by decide +kernel
theorem dX8_append_29 : decode cX8_append 29 = .ok (.getfield 13, 3) := by decide +kernel
theorem dX8_append_32 : decode cX8_append 32 = .ok (.lload_n 2, 1) := by decide +kernel
theorem dX8_append_33 : decode cX8_append 33 = .ok (.bipush 8, 2) := by decide +kernel
theorem dX8_append_35 : decode cX8_append 35 = .ok (.iload 4, 2) := by decide +kernel
theorem dX8_append_37 : decode cX8_append 37 = .ok (.imul, 1) := by decide +kernel
theorem dX8_append_38 : decode cX8_append 38 = .ok (.lshr, 1) := by decide +kernel
theorem dX8_append_39 : decode cX8_append 39 = .ok (.l2i, 1) := by decide +kernel
theorem dX8_append_40 : decode cX8_append 40 = .ok (.i2b, 1) := by decide +kernel
theorem dX8_append_41 : decode cX8_append 41 = .ok (.bastore, 1) := by decide +kernel
theorem dX8_append_42 : decode cX8_append 42 = .ok (.aload_n 0, 1) := by decide +kernel
theorem dX8_append_43 : decode cX8_append 43 = .ok (.dup, 1) := by decide +kernel
theorem dX8_append_44 : decode cX8_append 44 = .ok (.getfield 13, 3) := by decide +kernel
theorem dX8_append_47 : decode cX8_append 47 = .ok (.iconst 1, 1) := by decide +kernel
theorem dX8_append_48 : decode cX8_append 48 = .ok (.iadd, 1) := by decide +kernel
theorem dX8_append_49 : decode cX8_append 49 = .ok (.putfield 13, 3) := by decide +kernel
theorem dX8_append_52 : decode cX8_append 52 = .ok (.iinc 4 (-1), 3) := by decide +kernel
theorem dX8_append_55 : decode cX8_append 55 = .ok (.goto (-36), 3) := by decide +kernel
theorem dX8_append_58 : decode cX8_append 58 = .ok (.iconst 1, 1) := by decide +kernel
theorem dX8_append_59 : decode cX8_append 59 = .ok (.ireturn, 1) := by decide +kernel
theorem dX8_empty_0 : decode cX8_empty 0 = .ok (.aload_n 0, 1) := by decide +kernel
theorem dX8_empty_1 : decode cX8_empty 1 = .ok (.getfield 13, 3) := by decide +kernel
theorem dX8_empty_4 : decode cX8_empty 4 = .ok (.istore_n 1, 1) := by decide +kernel
theorem dX8_empty_5 : decode cX8_empty 5 = .ok (.aload_n 0, 1) := by decide +kernel
theorem dX8_empty_6 : decode cX8_empty 6 = .ok (.iconst 0, 1) := by decide +kernel
theorem dX8_empty_7 : decode cX8_empty 7 = .ok (.putfield 13, 3) := by decide +kernel
theorem dX8_empty_10 : decode cX8_empty 10 = .ok (.iload_n 1, 1) := by decide +kernel
theorem dX8_empty_11 : decode cX8_empty 11 = .ok (.ireturn, 1) := by decide +kernel
theorem dX8_byteAt_0 : decode cX8_byteAt 0 = .ok (.iload_n 1, 1) := by decide +kernel
theorem dX8_byteAt_1 : decode cX8_byteAt 1 = .ok (.ifCond .lt 24, 3) := by decide +kernel
theorem dX8_byteAt_4 : decode cX8_byteAt 4 = .ok (.iload_n 1, 1) := by decide +kernel
theorem dX8_byteAt_5 : decode cX8_byteAt 5 = .ok (.aload_n 0, 1) := by decide +kernel
theorem dX8_byteAt_6 : decode cX8_byteAt 6 = .ok (.getfield 13, 3) := by decide +kernel
theorem dX8_byteAt_9 : decode cX8_byteAt 9 = .ok (.if_icmp .ge 16, 3) := by decide +kernel
theorem dX8_byteAt_12 : decode cX8_byteAt 12 = .ok (.aload_n 0, 1) := by decide +kernel
theorem dX8_byteAt_13 : decode cX8_byteAt 13 = .ok (.getfield 9, 3) := by decide +kernel
theorem dX8_byteAt_16 : decode cX8_byteAt 16 = .ok (.iload_n 1, 1) := by decide +kernel
theorem dX8_byteAt_17 : decode cX8_byteAt 17 = .ok (.baload, 1) := by decide +kernel
theorem dX8_byteAt_18 : decode cX8_byteAt 18 = .ok (.sipush 255, 3) := by decide +kernel
theorem dX8_byteAt_21 : decode cX8_byteAt 21 = .ok (.iand, 1) := by decide +kernel
theorem dX8_byteAt_22 : decode cX8_byteAt 22 = .ok (.goto 4, 3) := by decide +kernel
theorem dX8_byteAt_25 : decode cX8_byteAt 25 = .ok (.iconst (-1), 1) := by decide +kernel
theorem dX8_byteAt_26 : decode cX8_byteAt 26 = .ok (.ireturn, 1) := by decide +kernel
theorem dX9_init_0 : decode cX9_init 0 = .ok (.aload_n 0, 1) := by decide +kernel
theorem dX9_init_1 : decode cX9_init 1 = .ok (.invokespecial 3, 3) := by decide +kernel
theorem dX9_init_4 : decode cX9_init 4 = .ok (.aload_n 0, 1) := by decide +kernel
theorem dX9_init_5 : decode cX9_init 5 = .ok (.iconst 3, 1) := by decide +kernel
theorem dX9_init_6 : decode cX9_init 6 = .ok (.newarray .int, 2) := by decide +kernel
theorem dX9_init_8 : decode cX9_init 8 = .ok (.putfield 9, 3) := by decide +kernel
theorem dX9_init_11 : decode cX9_init 11 = .ok (.aload_n 0, 1) := by decide +kernel
theorem dX9_init_12 : decode cX9_init 12 = .ok (.iconst 3, 1) := by decide +kernel
theorem dX9_init_13 : decode cX9_init 13 = .ok (.newarray .int, 2) := by decide +kernel
theorem dX9_init_15 : decode cX9_init 15 = .ok (.putfield 15, 3) := by decide +kernel
theorem dX9_init_18 : decode cX9_init 18 = .ok (.aload_n 0, 1) := by decide +kernel
