theorem dL_fight_773 : decode cL_fight 773 = .ok (.aload 5, 2) := by decide +kernel
theorem dL_fight_775 : decode cL_fight 775 = .ok (.bipush 7, 2) := by decide +kernel
theorem dL_fight_777 : decode cL_fight 777 = .ok (.iload 8, 2) := by decide +kernel
theorem dL_fight_779 : decode cL_fight 779 = .ok (.imul, 1) := by decide +kernel
theorem dL_fight_780 : decode cL_fight 780 = .ok (.iconst 2, 1) := by decide +kernel
theorem dL_fight_781 : decode cL_fight 781 = .ok (.iadd, 1) := by decide +kernel
theorem dL_fight_782 : decode cL_fight 782 = .ok (.iaload, 1) := by decide +kernel
theorem dL_fight_783 : decode cL_fight 783 = .ok (.aload 5, 2) := by decide +kernel
theorem dL_fight_785 : decode cL_fight 785 = .ok (.bipush 7, 2) := by decide +kernel
theorem dL_fight_787 : decode cL_fight 787 = .ok (.iload 8, 2) := by decide +kernel
theorem dL_fight_789 : decode cL_fight 789 = .ok (.imul, 1) := by decide +kernel
theorem dL_fight_790 : decode cL_fight 790 = .ok (.iconst 3, 1) := by decide +kernel
theorem dL_fight_791 : decode cL_fight 791 = .ok (.iadd, 1) := by decide +kernel
theorem dL_fight_792 : decode cL_fight 792 = .ok (.iaload, 1) := by decide +kernel
theorem dL_fight_793 : decode cL_fight 793 = .ok (.aload 5, 2) := by decide +kernel
theorem dL_fight_795 : decode cL_fight 795 = .ok (.bipush 7, 2) := by decide +kernel
theorem dL_fight_797 : decode cL_fight 797 = .ok (.iload 8, 2) := by decide +kernel
theorem dL_fight_799 : decode cL_fight 799 = .ok (.imul, 1) := by decide +kernel
theorem dL_fight_800 : decode cL_fight 800 = .ok (.iconst 4, 1) := by decide +kernel
theorem dL_fight_801 : decode cL_fight 801 = .ok (.iadd, 1) := by decide +kernel
theorem dL_fight_802 : decode cL_fight 802 = .ok (.iaload, 1) := by decide +kernel
theorem dL_fight_803 : decode cL_fight 803 = .ok (.aload 5, 2) := by decide +kernel
theorem dL_fight_805 : decode cL_fight 805 = .ok (.bipush 7, 2) := by decide +kernel
theorem dL_fight_807 : decode cL_fight 807 = .ok (.iload 8, 2) := by decide +kernel
theorem dL_fight_809 : decode cL_fight 809 = .ok (.imul, 1) := by decide +kernel
theorem dL_fight_810 : decode cL_fight 810 = .ok (.iconst 5, 1) := by decide +kernel
theorem dL_fight_811 : decode cL_fight 811 = .ok (.iadd, 1) := by decide +kernel
theorem dL_fight_812 : decode cL_fight 812 = .ok (.iaload, 1) := by decide +kernel
theorem dL_fight_813 : decode cL_fight 813 = .ok (.aload 5, 2) := by decide +kernel
theorem dL_fight_815 : decode cL_fight 815 = .ok (.bipush 7, 2) := by decide +kernel
theorem dL_fight_817 : decode cL_fight 817 = .ok (.iload 8, 2) := by decide +kernel
theorem dL_fight_819 : decode cL_fight 819 = .ok (.imul, 1) := by decide +kernel
theorem dL_fight_820 : decode cL_fight 820 = .ok (.bipush 6, 2) := by decide +kernel
theorem dL_fight_822 : decode cL_fight 822 = .ok (.iadd, 1) := by decide +kernel
theorem dL_fight_823 : decode cL_fight 823 = .ok (.iaload, 1) := by decide +kernel
theorem dL_fight_824 : decode cL_fight 824 = .ok (.invokestatic 33, 3) := by decide +kernel
theorem dL_fight_827 : decode cL_fight 827 = .ok (.ifCond .eq 7, 3) := by decide +kernel
theorem dL_fight_830 : decode cL_fight 830 = .ok (.iconst 1, 1) := by decide +kernel
theorem dL_fight_831 : decode cL_fight 831 = .ok (.goto 4, 3) := by decide +kernel
theorem dL_fight_834 : decode cL_fight 834 = .ok (.iconst 0, 1) := by decide +kernel
theorem dL_fight_835 : decode cL_fight 835 = .ok (.istore 7, 2) := by decide +kernel
theorem dL_fight_837 : decode cL_fight 837 = .ok (.iinc 8 1, 3) := by decide +kernel
theorem dL_fight_840 : decode cL_fight 840 = .ok (.goto (-280), 3) := by decide +kernel
theorem dL_fight_843 : decode cL_fight 843 = .ok (.iload 7, 2) := by decide +kernel
theorem dL_fight_845 : decode cL_fight 845 = .ok (.ifCond .eq 26, 3) := by decide +kernel
theorem dL_fight_848 : decode cL_fight 848 = .ok (.aload_n 0, 1) := by decide +kernel
theorem dL_fight_849 : decode cL_fight 849 = .ok (.invokevirtual 37, 3) := by decide +kernel
theorem dL_fight_852 : decode cL_fight 852 = .ok (.bipush (-4), 2) := by decide +kernel
theorem dL_fight_854 : decode cL_fight 854 = .ok (.if_icmp .ne 17, 3) := by decide +kernel
theorem dL_fight_857 : decode cL_fight 857 = .ok (.aload_n 0, 1) := by decide +kernel
theorem dL_fight_858 : decode cL_fight 858 = .ok (.invokevirtual 40, 3) := by decide +kernel
theorem dL_fight_861 : decode cL_fight 861 = .ok (.aload_n 3, 1) := by decide +kernel
theorem dL_fight_862 : decode cL_fight 862 = .ok (.iconst 1, 1) := by decide +kernel
theorem dL_fight_863 : decode cL_fight 863 = .ok (.iaload, 1) := by decide +kernel
theorem dL_fight_864 : decode cL_fight 864 = .ok (.if_icmp .ne 7, 3) := by decide +kernel
theorem dL_fight_867 : decode cL_fight 867 = .ok (.iconst 1, 1) := by decide +kernel
theorem dL_fight_868 : decode cL_fight 868 = .ok (.goto 4, 3) := by decide +kernel
theorem dL_fight_871 : decode cL_fight 871 = .ok (.iconst 0, 1) := by decide +kernel
theorem dL_fight_872 : decode cL_fight 872 = .ok (.ireturn, 1) := by decide +kernel
set_option maxRecDepth 20000 in
theorem ggL_act_L_some : GoodIn wsL_act wsL_some := goodIn_r _ [7, 8] (by decide +kernel) (by decide +kernel)
set_option maxRecDepth 20000 in
theorem gL_act_L_some : GoodIn wsL_act (va_wsS RL 25 yL_some wsL_some) := goodIn_app (goodIn_of _ (by decide +kernel)) ggL_act_L_some
set_option maxRecDepth 20000 in
theorem ggL_act_X10_sum : GoodIn wsL_act wsX10_sum := goodIn_r _ [13, 14, 15, 16, 17, 12, 18, 19, 20, 21, 22, 23, 24, 25, 26, 27, 28, 29, 30, 31, 32, 33, 34, 35, 36, 37, 475, 476, 477, 478, 479, 480, 481, 482, 483, 484, 485, 486, 487, 488, 489, 490, 491, 492, 493, 494, 495, 496, 497, 498, 499, 500] (by decide +kernel) (by decide +kernel)
set_option maxRecDepth 20000 in
theorem gL_act_X10_sum : GoodIn wsL_act (wsV RL 62 RX10 yX10_sum wsX10_sum) := goodIn_app (goodIn_of _ (by decide +kernel)) ggL_act_X10_sum
set_option maxRecDepth 20000 in
theorem ggL_act_X10_close : GoodIn wsL_act wsX10_close := goodIn_r _ [41, 14, 15, 16, 17, 12, 18, 19, 20, 21, 22, 23, 24, 25, 42, 43, 44, 32, 45, 46, 47, 48, 49, 50, 51, 52, 53, 54, 55, 56, 57, 58, 59, 475, 476, 477, 478, 479, 480, 481, 482, 483, 484, 485, 486, 487, 488, 489, 490, 491, 492, 493, 494, 495, 496, 497, 498, 499, 500] (by decide +kernel) (by decide +kernel)
set_option maxRecDepth 20000 in
theorem gL_act_X10_close : GoodIn wsL_act (wsV RL 68 RX10 yX10_close wsX10_close) := goodIn_app (goodIn_of _ (by decide +kernel)) ggL_act_X10_close
set_option maxRecDepth 20000 in
theorem ggL_act_X10_lead : GoodIn wsL_act wsX10_lead := goodIn_r _ [63, 14, 64, 15, 16, 17, 12, 18, 19, 20, 21, 22, 23, 24, 25, 65, 51, 52, 32, 53, 54, 475, 476, 477, 478, 479, 480, 481, 482, 483, 484, 485, 486, 487, 488, 489, 490, 491, 492, 493, 494, 495, 496, 497, 498, 499, 500] (by decide +kernel) (by decide +kernel)
set_option maxRecDepth 20000 in
theorem gL_act_X10_lead : GoodIn wsL_act (wsV RL 70 RX10 yX10_lead wsX10_lead) := goodIn_app (goodIn_of _ (by decide +kernel)) ggL_act_X10_lead
set_option maxRecDepth 20000 in
theorem ggL_act_X10_margin : GoodIn wsL_act wsX10_margin := goodIn_r _ [69, 70, 64, 71, 72, 12, 73, 23, 24, 25, 15, 16, 17, 18, 14, 19, 20, 21, 22, 74, 75, 76, 77, 78, 79, 80, 51, 52, 32, 53, 54, 81, 82, 83, 84, 85, 86, 48, 87, 88, 89, 90, 91, 92, 93, 94, 95, 96, 43, 44, 45, 46, 47, 49, 50, 55, 56, 57, 58, 59, 97, 98, 99, 100, 475, 476, 477, 478, 479, 480, 481, 482, 483, 484, 485, 486, 487, 488, 489, 490, 491, 492, 493, 494, 495, 496, 497, 498, 499, 500, 501, 502] (by decide +kernel) (by decide +kernel)
set_option maxRecDepth 20000 in
theorem gL_act_X10_margin : GoodIn wsL_act (wsV RL 72 RX10 yX10_margin wsX10_margin) := goodIn_app (goodIn_of _ (by decide +kernel)) ggL_act_X10_margin
set_option maxRecDepth 20000 in
theorem ggL_act_X10_card : GoodIn wsL_act wsX10_card := goodIn_r _ [104, 70, 64, 71, 72, 12, 73, 23, 24, 25, 19, 20, 21, 22, 14, 105, 106, 107, 77, 108, 79, 109, 110, 111, 32, 112, 113, 114, 115, 75, 76, 78, 80, 51, 52, 53, 54, 81, 82, 83, 84, 85, 86, 48, 87, 88, 89, 90, 91, 92, 93, 94, 95, 96, 43, 44, 45, 46, 47, 49, 50, 55, 56, 57, 58, 59, 97, 98, 99, 100, 475, 476, 477, 478, 479, 480, 481, 482, 483, 484, 485, 486, 487, 488, 489, 490, 491, 492, 493, 494, 495, 496, 497, 498, 499, 500, 501, 502] (by decide +kernel) (by decide +kernel)
set_option maxRecDepth 20000 in
theorem gL_act_X10_card : GoodIn wsL_act (wsV RL 76 RX10 yX10_card wsX10_card) := goodIn_app (goodIn_of _ (by decide +kernel)) ggL_act_X10_card
set_option maxRecDepth 20000 in
theorem ggL_act_X10_points : GoodIn wsL_act wsX10_points := goodIn_r _ [119, 70, 23, 24, 12, 25, 19, 20, 21, 22, 14, 26, 27, 28, 120, 121, 122, 77, 123, 79, 124, 89, 48, 90, 109, 110, 111, 32, 112, 113, 114, 115, 75, 76, 78, 80, 51, 52, 53, 54, 81, 82, 83, 84, 85, 86, 87, 88, 91, 92, 93, 94, 95, 96, 43, 44, 45, 46, 47, 49, 50, 55, 56, 57, 58, 59, 97, 98, 99, 100, 475, 476, 477, 478, 479, 480, 481, 482, 483, 484, 485, 486, 487, 488, 489, 490, 491, 492, 493, 494, 495, 496, 497, 498, 499, 500, 501, 502] (by decide +kernel) (by decide +kernel)
set_option maxRecDepth 20000 in
theorem gL_act_X10_points : GoodIn wsL_act (wsV RL 79 RX10 yX10_points wsX10_points) := goodIn_app (goodIn_of _ (by decide +kernel)) ggL_act_X10_points
set_option maxRecDepth 20000 in
theorem ggL_act_X10_end : GoodIn wsL_act wsX10_end := goodIn_r _ [128, 70, 71, 72, 12, 73, 23, 24, 25, 129, 130, 131, 132, 19, 20, 21, 22, 14, 105, 106, 107, 77, 108, 79, 109, 110, 111, 32, 112, 113, 114, 115, 75, 76, 78, 80, 51, 52, 53, 54, 81, 82, 83, 84, 85, 86, 48, 87, 88, 89, 90, 91, 92, 93, 94, 95, 96, 43, 44, 45, 46, 47, 49, 50, 55, 56, 57, 58, 59, 97, 98, 99, 100, 133, 134, 135, 136, 137, 138, 139, 140, 141, 142, 475, 476, 477, 478, 479, 480, 481, 482, 483, 484, 485, 486, 487, 488, 489, 490, 491, 492, 493, 494, 495, 496, 497, 498, 499, 500, 501, 502] (by decide +kernel) (by decide +kernel)
set_option maxRecDepth 20000 in
theorem gL_act_X10_end : GoodIn wsL_act (wsV RL 82 RX10 yX10_end wsX10_end) := goodIn_app (goodIn_of _ (by decide +kernel)) ggL_act_X10_end
set_option maxRecDepth 20000 in
theorem ggL_act_X10_others : GoodIn wsL_act wsX10_others := goodIn_r _ [146, 70, 71, 72, 12, 73, 23, 24, 25, 147, 148, 149, 77, 150, 79, 151, 152, 106, 107, 108, 109, 110, 111, 32, 112, 113, 114, 115, 75, 76, 78, 80, 51, 52, 53, 54, 81, 82, 83, 84, 85, 86, 48, 87, 88, 89, 90, 91, 92, 93, 94, 95, 96, 43, 44, 45, 46, 47, 49, 50, 55, 56, 57, 58, 59, 97, 98, 99, 100, 153, 134, 135, 142, 137, 138, 475, 476, 477, 478, 479, 480, 481, 482, 483, 484, 485, 486, 487, 501, 502, 488, 489, 490, 491, 492, 493, 494, 495, 496, 497, 498, 499, 500] (by decide +kernel) (by decide +kernel)
set_option maxRecDepth 20000 in
theorem gL_act_X10_others : GoodIn wsL_act (wsV RL 88 RX10 yX10_others wsX10_others) := goodIn_app (goodIn_of _ (by decide +kernel)) ggL_act_X10_others
set_option maxRecDepth 20000 in
theorem ggL_act_X10_men : GoodIn wsL_act wsX10_men := goodIn_r _ [157, 70, 71, 72, 12, 73, 23, 24, 25, 158, 159, 160, 77, 161, 79, 162, 163, 164, 32, 165, 166, 167, 168, 169, 170, 113, 171, 172, 173, 174, 175, 153, 134, 135, 152, 106, 107, 108, 109, 110, 111, 112, 114, 115, 75, 76, 78, 80, 51, 52, 53, 54, 81, 82, 83, 84, 85, 86, 48, 87, 88, 89, 90, 91, 92, 93, 94, 95, 96, 43, 44, 45, 46, 47, 49, 50, 55, 56, 57, 58, 59, 97, 98, 99, 100, 475, 476, 477, 478, 479, 480, 481, 482, 483, 484, 485, 486, 487, 501, 502, 488, 489, 490, 491, 492, 493, 494, 495, 496, 497, 498, 499, 500] (by decide +kernel) (by decide +kernel)
set_option maxRecDepth 20000 in
theorem gL_act_X10_men : GoodIn wsL_act (wsV RL 91 RX10 yX10_men wsX10_men) := goodIn_app (goodIn_of _ (by decide +kernel)) ggL_act_X10_men
set_option maxRecDepth 20000 in
theorem ggL_act_X10_seats : GoodIn wsL_act wsX10_seats := goodIn_r _ [179, 180, 23, 24, 12, 25, 181, 182, 183, 184, 185, 186, 187, 188, 189, 190, 191, 192, 193, 194, 195, 196, 197, 168, 169, 32, 170, 113, 171, 172, 173, 174, 175, 198, 199, 200, 201, 202, 203, 204, 205, 206, 207, 208, 209, 210, 475, 476, 477, 478, 479, 480, 481, 482, 483, 484, 485, 486, 487, 503, 504, 505, 506, 488, 489, 490, 491, 492, 493, 494, 495, 496, 497, 498, 499, 500] (by decide +kernel) (by decide +kernel)
set_option maxRecDepth 20000 in
theorem gL_act_X10_seats : GoodIn wsL_act (wsV RL 95 RX10 yX10_seats wsX10_seats) := goodIn_app (goodIn_of _ (by decide +kernel)) ggL_act_X10_seats
set_option maxRecDepth 20000 in
theorem ggL_act_X10_coins : GoodIn wsL_act wsX10_coins := goodIn_r _ [214, 215, 216, 23, 24, 12, 25, 129, 130, 131, 132, 19, 20, 21, 22, 14, 217, 218, 219, 220, 221, 222, 223, 224, 225, 195, 226, 227, 228, 229, 230, 231, 232, 233, 43, 44, 32, 45, 46, 47, 48, 49, 50, 51, 52, 53, 54, 55, 56, 57, 58, 59, 234, 106, 107, 77, 108, 79, 109, 110, 111, 112, 113, 114, 115, 75, 76, 78, 80, 81, 82, 83, 84, 85, 86, 87, 88, 89, 90, 91, 92, 93, 94, 95, 96, 97, 98, 99, 100, 235, 134, 135, 236, 237, 238, 239, 240, 241, 242, 243, 244, 245, 137, 138, 475, 476, 477, 478, 479, 480, 481, 482, 483, 484, 485, 486, 487, 507, 508, 509, 510, 488, 489, 490, 491, 492, 493, 494, 495, 496, 497, 498, 499, 500, 501, 502] (by decide +kernel) (by decide +kernel)
set_option maxRecDepth 20000 in
theorem gL_act_X10_coins : GoodIn wsL_act (wsV RL 98 RX10 yX10_coins wsX10_coins) := goodIn_app (goodIn_of _ (by decide +kernel)) ggL_act_X10_coins
set_option maxRecDepth 20000 in
theorem ggL_act_X10_delay : GoodIn wsL_act wsX10_delay := goodIn_r _ [249, 250, 19, 20, 21, 12, 22, 14, 23, 24, 25, 475, 476, 477, 478, 479, 480, 481, 482, 483, 484, 485, 486, 487, 511, 512, 513, 488, 489, 490, 491, 492, 493, 494, 495, 496, 497, 498, 499, 500] (by decide +kernel) (by decide +kernel)
set_option maxRecDepth 20000 in
theorem gL_act_X10_delay : GoodIn wsL_act (wsV RL 102 RX10 yX10_delay wsX10_delay) := goodIn_app (goodIn_of _ (by decide +kernel)) ggL_act_X10_delay
set_option maxRecDepth 20000 in
theorem ggL_act_X10_buttons : GoodIn wsL_act wsX10_buttons := goodIn_r _ [254, 14, 255, 23, 24, 12, 25, 256, 257, 258, 259, 260, 261, 262, 89, 48, 90, 263, 264, 265, 266, 267, 268, 269, 270, 271, 272, 273, 172, 173, 32, 174, 175, 274, 275, 276, 277, 278, 279, 280, 281, 282, 283, 284, 285, 286, 287, 288, 289, 290, 291, 292, 293, 294, 295, 296, 297, 298, 299, 300, 301, 302, 303, 304, 305, 306, 307, 308, 475, 476, 477, 478, 479, 480, 481, 482, 483, 484, 485, 486, 487, 488, 489, 490, 491, 492, 493, 494, 495, 496, 497, 498, 499, 500, 514, 515, 516, 517, 518, 511, 512, 513] (by decide +kernel) (by decide +kernel)
set_option maxRecDepth 20000 in
theorem gL_act_X10_buttons : GoodIn wsL_act (wsV RL 105 RX10 yX10_buttons wsX10_buttons) := goodIn_app (goodIn_of _ (by decide +kernel)) ggL_act_X10_buttons
set_option maxRecDepth 20000 in
theorem ggL_act_X10_tell : GoodIn wsL_act wsX10_tell := goodIn_r _ [312, 250, 313, 314, 12, 315, 23, 24, 25, 316, 317, 318, 319, 320, 321, 322, 323, 324, 325, 475, 476, 477, 478, 479, 480, 481, 482, 483, 484, 485, 486, 487, 511, 512, 513] (by decide +kernel) (by decide +kernel)
set_option maxRecDepth 20000 in
theorem gL_act_X10_tell : GoodIn wsL_act (wsV RL 109 RX10 yX10_tell wsX10_tell) := goodIn_app (goodIn_of _ (by decide +kernel)) ggL_act_X10_tell
set_option maxRecDepth 20000 in
theorem ggL_act_X10_same : GoodIn wsL_act wsX10_same := goodIn_r _ [329, 330, 313, 314, 12, 315, 23, 24, 25, 331, 332, 333, 334, 335, 336, 337, 338, 339, 194, 195, 196, 340, 341, 342, 319, 343, 344, 317, 318, 320, 321, 345, 81, 82, 346, 347, 348, 349, 475, 476, 477, 478, 479, 480, 481, 482, 483, 484, 485, 486, 487, 519, 520, 521, 522, 523, 511, 512, 513] (by decide +kernel) (by decide +kernel)
set_option maxRecDepth 20000 in
theorem gL_act_X10_same : GoodIn wsL_act (wsV RL 112 RX10 yX10_same wsX10_same) := goodIn_app (goodIn_of _ (by decide +kernel)) ggL_act_X10_same
set_option maxRecDepth 20000 in
theorem ggL_act_X10_unlike : GoodIn wsL_act wsX10_unlike := goodIn_r _ [353, 330, 313, 314, 12, 315, 23, 24, 25, 354, 355, 356, 334, 357, 338, 358, 359, 360, 47, 48, 49, 361, 362, 363, 364, 340, 341, 342, 319, 343, 344, 317, 318, 320, 321, 345, 365, 366, 367, 368, 475, 476, 477, 478, 479, 480, 481, 482, 483, 484, 485, 486, 487, 519, 520, 521, 522, 523, 511, 512, 513] (by decide +kernel) (by decide +kernel)
set_option maxRecDepth 20000 in
theorem gL_act_X10_unlike : GoodIn wsL_act (wsV RL 115 RX10 yX10_unlike wsX10_unlike) := goodIn_app (goodIn_of _ (by decide +kernel)) ggL_act_X10_unlike
set_option maxRecDepth 20000 in
theorem ggL_act_X10_lean : GoodIn wsL_act wsX10_lean := goodIn_r _ [372, 330, 64, 313, 314, 12, 315, 23, 24, 25, 373, 374, 375, 334, 376, 338, 358, 361, 362, 363, 364, 340, 341, 342, 319, 343, 344, 317, 318, 320, 321, 345, 365, 366, 367, 368, 359, 377, 378, 379, 380, 475, 476, 477, 478, 479, 480, 481, 482, 483, 484, 485, 486, 487, 519, 520, 521, 522, 523, 511, 512, 513] (by decide +kernel) (by decide +kernel)
set_option maxRecDepth 20000 in
theorem gL_act_X10_lean : GoodIn wsL_act (wsV RL 118 RX10 yX10_lean wsX10_lean) := goodIn_app (goodIn_of _ (by decide +kernel)) ggL_act_X10_lean
set_option maxRecDepth 20000 in
theorem ggL_act_X10_tenths : GoodIn wsL_act wsX10_tenths := goodIn_r _ [384, 250, 23, 24, 12, 25, 385, 386, 387, 319, 388, 389, 390, 391, 392, 393, 475, 476, 477, 478, 479, 480, 481, 482, 483, 484, 485, 486, 487, 511, 512, 513] (by decide +kernel) (by decide +kernel)
set_option maxRecDepth 20000 in
theorem gL_act_X10_tenths : GoodIn wsL_act (wsV RL 121 RX10 yX10_tenths wsX10_tenths) := goodIn_app (goodIn_of _ (by decide +kernel)) ggL_act_X10_tenths
set_option maxRecDepth 20000 in
theorem ggL_act_X10_open : GoodIn wsL_act wsX10_open := goodIn_r _ [397, 398, 399, 400, 12, 401, 23, 24, 25, 402, 403, 404, 405, 406, 407, 408, 409, 410, 411, 412, 413, 414, 415, 416, 417, 418, 419, 420, 421, 422, 386, 387, 319, 388, 389, 423, 424, 425, 426, 427, 428, 429, 430, 86, 48, 87, 431, 432, 433, 434, 435, 436, 437, 438, 439, 440, 441, 442, 443, 475, 476, 477, 478, 479, 480, 481, 482, 483, 484, 485, 486, 487, 524, 525, 526, 527, 528, 529, 511, 512, 513] (by decide +kernel) (by decide +kernel)
set_option maxRecDepth 20000 in
theorem gL_act_X10_open : GoodIn wsL_act (wsV RL 124 RX10 yX10_open wsX10_open) := goodIn_app (goodIn_of _ (by decide +kernel)) ggL_act_X10_open
set_option maxRecDepth 20000 in
theorem ggL_act_X10_hidden : GoodIn wsL_act wsX10_hidden := goodIn_r _ [447, 398, 399, 400, 12, 401, 23, 24, 25, 448, 449, 450, 405, 451, 420, 409, 421, 422, 386, 387, 319, 388, 389, 452, 453, 454, 455, 408, 407, 410, 411, 412, 413, 414, 415, 423, 424, 425, 436, 437, 438, 439, 426, 427, 428, 429, 430, 86, 48, 87, 431, 432, 433, 434, 435, 440, 441, 442, 443, 475, 476, 477, 478, 479, 480, 481, 482, 483, 484, 485, 486, 487, 524, 525, 526, 527, 528, 529, 511, 512, 513] (by decide +kernel) (by decide +kernel)
set_option maxRecDepth 20000 in
theorem gL_act_X10_hidden : GoodIn wsL_act (wsV RL 127 RX10 yX10_hidden wsX10_hidden) := goodIn_app (goodIn_of _ (by decide +kernel)) ggL_act_X10_hidden
set_option maxRecDepth 20000 in
theorem ggL_act_X10_keep : GoodIn wsL_act wsX10_keep := goodIn_r _ [459, 460, 461, 250, 462, 463, 464, 319, 465, 466, 467, 468, 469, 470, 321, 389, 475, 476, 477, 478, 479, 480, 481, 482, 483, 484, 485, 486, 487, 511, 512, 513] (by decide +kernel) (by decide +kernel)
set_option maxRecDepth 20000 in
theorem gL_act_X10_keep : GoodIn wsL_act (wsV RL 130 RX10 yX10_keep wsX10_keep) := goodIn_app (goodIn_of _ (by decide +kernel)) ggL_act_X10_keep
set_option maxRecDepth 20000 in
theorem ggL_act_X10_back : GoodIn wsL_act wsX10_back := goodIn_r _ [474, 460, 250, 461, 462, 463, 464, 319, 465, 466, 467, 468, 469, 470, 321, 389, 475, 476, 477, 478, 479, 480, 481, 482, 483, 484, 485, 486, 487, 511, 512, 513] (by decide +kernel) (by decide +kernel)
set_option maxRecDepth 20000 in
theorem gL_act_X10_back : GoodIn wsL_act (wsV RL 133 RX10 yX10_back wsX10_back) := goodIn_app (goodIn_of _ (by decide +kernel)) ggL_act_X10_back
theorem dL_act_0 : decode cL_act 0 = .ok (.iload_n 2, 1) := by decide +kernel
theorem dL_act_1 : decode cL_act 1 = .ok (.iload_n 3, 1) := by decide +kernel
theorem dL_act_2 : decode cL_act 2 = .ok (.invokestatic 25, 3) := by decide +kernel
theorem dL_act_5 : decode cL_act 5 = .ok (.istore 5, 2) := by decide +kernel
theorem dL_act_7 : decode cL_act 7 = .ok (.iload_n 2, 1) := by decide +kernel
theorem dL_act_8 : decode cL_act 8 = .ok (.iconst 3, 1) := by decide +kernel
theorem dL_act_9 : decode cL_act 9 = .ok (.ishr, 1) := by decide +kernel
theorem dL_act_10 : decode cL_act 10 = .ok (.iload 4, 2) := by decide +kernel
theorem dL_act_12 : decode cL_act 12 = .ok (.invokestatic 25, 3) := by decide +kernel
theorem dL_act_15 : decode cL_act 15 = .ok (.istore 6, 2) := by decide +kernel
theorem dL_act_17 : decode cL_act 17 = .ok (.iload_n 1, 1) := by decide +kernel
theorem dL_act_18 : decode cL_act 18 = .ok (.bipush 15, 2) := by decide +kernel
theorem dL_act_20 : decode cL_act 20 = .ok (.iand, 1) := by decide +kernel
theorem dL_act_21 : decode cL_act 21 = .ok (.tableswitch 506 0 14 #[75, 104, 114, 146, 167, 207, 233, 256, 272, 315, 315, 346, 392, 409, 431], 75) := by decide +kernel
theorem dL_act_96 : decode cL_act 96 = .ok (.aload_n 0, 1) := by decide +kernel
theorem dL_act_97 : decode cL_act 97 = .ok (.iload 5, 2) := by decide +kernel
theorem dL_act_99 : decode cL_act 99 = .ok (.iload 6, 2) := by decide +kernel
theorem dL_act_101 : decode cL_act 101 = .ok (.iload_n 1, 1) := by decide +kernel
theorem dL_act_102 : decode cL_act 102 = .ok (.iconst 4, 1) := by decide +kernel
theorem dL_act_103 : decode cL_act 103 = .ok (.ishr, 1) := by decide +kernel
theorem dL_act_104 : decode cL_act 104 = .ok (.iconst 1, 1) := by decide +kernel
theorem dL_act_105 : decode cL_act 105 = .ok (.iand, 1) := by decide +kernel
theorem dL_act_106 : decode cL_act 106 = .ok (.invokevirtual 62, 3) := by decide +kernel
theorem dL_act_109 : decode cL_act 109 = .ok (.i2l, 1) := by decide +kernel
theorem dL_act_110 : decode cL_act 110 = .ok (.ldc2_w 66, 3) := by decide +kernel
theorem dL_act_113 : decode cL_act 113 = .ok (.lmul, 1) := by decide +kernel
theorem dL_act_114 : decode cL_act 114 = .ok (.aload_n 0, 1) := by decide +kernel
theorem dL_act_115 : decode cL_act 115 = .ok (.iload 5, 2) := by decide +kernel
theorem dL_act_117 : decode cL_act 117 = .ok (.iload 6, 2) := by decide +kernel
theorem dL_act_119 : decode cL_act 119 = .ok (.invokevirtual 68, 3) := by decide +kernel
theorem dL_act_122 : decode cL_act 122 = .ok (.i2l, 1) := by decide +kernel
theorem dL_act_123 : decode cL_act 123 = .ok (.ladd, 1) := by decide +kernel
theorem dL_act_124 : decode cL_act 124 = .ok (.lreturn, 1) := by decide +kernel
theorem dL_act_125 : decode cL_act 125 = .ok (.aload_n 0, 1) := by decide +kernel
theorem dL_act_126 : decode cL_act 126 = .ok (.iload 5, 2) := by decide +kernel
theorem dL_act_128 : decode cL_act 128 = .ok (.iload 6, 2) := by decide +kernel
theorem dL_act_130 : decode cL_act 130 = .ok (.invokevirtual 70, 3) := by decide +kernel
theorem dL_act_133 : decode cL_act 133 = .ok (.i2l, 1) := by decide +kernel
theorem dL_act_134 : decode cL_act 134 = .ok (.lreturn, 1) := by decide +kernel
theorem dL_act_135 : decode cL_act 135 = .ok (.aload_n 0, 1) := by decide +kernel
theorem dL_act_136 : decode cL_act 136 = .ok (.iload_n 1, 1) := by decide +kernel
theorem dL_act_137 : decode cL_act 137 = .ok (.iconst 4, 1) := by decide +kernel
theorem dL_act_138 : decode cL_act 138 = .ok (.ishr, 1) := by decide +kernel
theorem dL_act_139 : decode cL_act 139 = .ok (.iconst 3, 1) := by decide +kernel
theorem dL_act_140 : decode cL_act 140 = .ok (.iand, 1) := by decide +kernel
theorem dL_act_141 : decode cL_act 141 = .ok (.iload 5, 2) := by decide +kernel
theorem dL_act_143 : decode cL_act 143 = .ok (.iload 6, 2) := by decide +kernel
theorem dL_act_145 : decode cL_act 145 = .ok (.invokevirtual 72, 3) := by decide +kernel
theorem dL_act_148 : decode cL_act 148 = .ok (.i2l, 1) := by decide +kernel
theorem dL_act_149 : decode cL_act 149 = .ok (.ldc2_w 74, 3) := by decide +kernel
theorem dL_act_152 : decode cL_act 152 = .ok (.lmul, 1) := by decide +kernel
theorem dL_act_153 : decode cL_act 153 = .ok (.aload_n 0, 1) := by decide +kernel
theorem dL_act_154 : decode cL_act 154 = .ok (.iload_n 1, 1) := by decide +kernel
theorem dL_act_155 : decode cL_act 155 = .ok (.iconst 4, 1) := by decide +kernel
theorem dL_act_156 : decode cL_act 156 = .ok (.ishr, 1) := by decide +kernel
theorem dL_act_157 : decode cL_act 157 = .ok (.iconst 3, 1) := by decide +kernel
theorem dL_act_158 : decode cL_act 158 = .ok (.iand, 1) := by decide +kernel
theorem dL_act_159 : decode cL_act 159 = .ok (.iload 5, 2) := by decide +kernel
theorem dL_act_161 : decode cL_act 161 = .ok (.invokevirtual 76, 3) := by decide +kernel
theorem dL_act_164 : decode cL_act 164 = .ok (.i2l, 1) := by decide +kernel
theorem dL_act_165 : decode cL_act 165 = .ok (.ladd, 1) := by decide +kernel
theorem dL_act_166 : decode cL_act 166 = .ok (.lreturn, 1) := by decide +kernel
theorem dL_act_167 : decode cL_act 167 = .ok (.aload_n 0, 1) := by decide +kernel
theorem dL_act_168 : decode cL_act 168 = .ok (.iload_n 1, 1) := by decide +kernel
theorem dL_act_169 : decode cL_act 169 = .ok (.iconst 4, 1) := by decide +kernel
theorem dL_act_170 : decode cL_act 170 = .ok (.ishr, 1) := by decide +kernel
theorem dL_act_171 : decode cL_act 171 = .ok (.iconst 3, 1) := by decide +kernel
theorem dL_act_172 : decode cL_act 172 = .ok (.invokestatic 25, 3) := by decide +kernel
theorem dL_act_175 : decode cL_act 175 = .ok (.iload 5, 2) := by decide +kernel
theorem dL_act_177 : decode cL_act 177 = .ok (.iload_n 1, 1) := by decide +kernel
theorem dL_act_178 : decode cL_act 178 = .ok (.bipush 6, 2) := by decide +kernel
theorem dL_act_180 : decode cL_act 180 = .ok (.ishr, 1) := by decide +kernel
theorem dL_act_181 : decode cL_act 181 = .ok (.iconst 1, 1) := by decide +kernel
theorem dL_act_182 : decode cL_act 182 = .ok (.iand, 1) := by decide +kernel
theorem dL_act_183 : decode cL_act 183 = .ok (.invokevirtual 79, 3) := by decide +kernel
theorem dL_act_186 : decode cL_act 186 = .ok (.i2l, 1) := by decide +kernel
theorem dL_act_187 : decode cL_act 187 = .ok (.lreturn, 1) := by decide +kernel
theorem dL_act_188 : decode cL_act 188 = .ok (.aload_n 0, 1) := by decide +kernel
theorem dL_act_189 : decode cL_act 189 = .ok (.iload_n 1, 1) := by decide +kernel
theorem dL_act_190 : decode cL_act 190 = .ok (.iconst 4, 1) := by decide +kernel
theorem dL_act_191 : decode cL_act 191 = .ok (.ishr, 1) := by decide +kernel
theorem dL_act_192 : decode cL_act 192 = .ok (.iconst 3, 1) := by decide +kernel
theorem dL_act_193 : decode cL_act 193 = .ok (.iand, 1) := by decide +kernel
theorem dL_act_194 : decode cL_act 194 = .ok (.iconst 0, 1) := by decide +kernel
theorem dL_act_195 : decode cL_act 195 = .ok (.iconst 1, 1) := by decide +kernel
theorem dL_act_196 : decode cL_act 196 = .ok (.iconst 2, 1) := by decide +kernel
theorem dL_act_197 : decode cL_act 197 = .ok (.iload_n 1, 1) := by decide +kernel
theorem dL_act_198 : decode cL_act 198 = .ok (.bipush 6, 2) := by decide +kernel
theorem dL_act_200 : decode cL_act 200 = .ok (.ishr, 1) := by decide +kernel
theorem dL_act_201 : decode cL_act 201 = .ok (.iconst 1, 1) := by decide +kernel
theorem dL_act_202 : decode cL_act 202 = .ok (.iand, 1) := by decide +kernel
theorem dL_act_203 : decode cL_act 203 = .ok (.invokevirtual 82, 3) := by decide +kernel
theorem dL_act_206 : decode cL_act 206 = .ok (.i2l, 1) := by decide +kernel
theorem dL_act_207 : decode cL_act 207 = .ok (.ldc2_w 86, 3) := by decide +kernel
theorem dL_act_210 : decode cL_act 210 = .ok (.lmul, 1) := by decide +kernel
theorem dL_act_211 : decode cL_act 211 = .ok (.aload_n 0, 1) := by decide +kernel
theorem dL_act_212 : decode cL_act 212 = .ok (.iload_n 1, 1) := by decide +kernel
theorem dL_act_213 : decode cL_act 213 = .ok (.iconst 4, 1) := by decide +kernel
theorem dL_act_214 : decode cL_act 214 = .ok (.ishr, 1) := by decide +kernel
theorem dL_act_215 : decode cL_act 215 = .ok (.iconst 3, 1) := by decide +kernel
theorem dL_act_216 : decode cL_act 216 = .ok (.iand, 1) := by decide +kernel
theorem dL_act_217 : decode cL_act 217 = .ok (.iload_n 2, 1) := by decide +kernel
theorem dL_act_218 : decode cL_act 218 = .ok (.iconst 3, 1) := by decide +kernel
theorem dL_act_219 : decode cL_act 219 = .ok (.invokestatic 25, 3) := by decide +kernel
theorem dL_act_222 : decode cL_act 222 = .ok (.invokevirtual 88, 3) := by decide +kernel
theorem dL_act_225 : decode cL_act 225 = .ok (.i2l, 1) := by decide +kernel
theorem dL_act_226 : decode cL_act 226 = .ok (.ladd, 1) := by decide +kernel
theorem dL_act_227 : decode cL_act 227 = .ok (.lreturn, 1) := by decide +kernel
theorem dL_act_228 : decode cL_act 228 = .ok (.aload_n 0, 1) := by decide +kernel
theorem dL_act_229 : decode cL_act 229 = .ok (.iload_n 1, 1) := by decide +kernel
theorem dL_act_230 : decode cL_act 230 = .ok (.iconst 4, 1) := by decide +kernel
theorem dL_act_231 : decode cL_act 231 = .ok (.ishr, 1) := by decide +kernel
theorem dL_act_232 : decode cL_act 232 = .ok (.iconst 3, 1) := by decide +kernel
theorem dL_act_233 : decode cL_act 233 = .ok (.iand, 1) := by decide +kernel
theorem dL_act_234 : decode cL_act 234 = .ok (.invokevirtual 91, 3) := by decide +kernel
theorem dL_act_237 : decode cL_act 237 = .ok (.i2l, 1) := by decide +kernel
theorem dL_act_238 : decode cL_act 238 = .ok (.ldc2_w 86, 3) := by decide +kernel
theorem dL_act_241 : decode cL_act 241 = .ok (.lmul, 1) := by decide +kernel
theorem dL_act_242 : decode cL_act 242 = .ok (.aload_n 0, 1) := by decide +kernel
theorem dL_act_243 : decode cL_act 243 = .ok (.iload_n 2, 1) := by decide +kernel
theorem dL_act_244 : decode cL_act 244 = .ok (.iconst 5, 1) := by decide +kernel
theorem dL_act_245 : decode cL_act 245 = .ok (.invokestatic 25, 3) := by decide +kernel
theorem dL_act_248 : decode cL_act 248 = .ok (.invokevirtual 95, 3) := by decide +kernel
theorem dL_act_251 : decode cL_act 251 = .ok (.i2l, 1) := by decide +kernel
theorem dL_act_252 : decode cL_act 252 = .ok (.ladd, 1) := by decide +kernel
theorem dL_act_253 : decode cL_act 253 = .ok (.lreturn, 1) := by decide +kernel
theorem dL_act_254 : decode cL_act 254 = .ok (.aload_n 0, 1) := by decide +kernel
theorem dL_act_255 : decode cL_act 255 = .ok (.iload_n 1, 1) := by decide +kernel
theorem dL_act_256 : decode cL_act 256 = .ok (.iconst 4, 1) := by decide +kernel
theorem dL_act_257 : decode cL_act 257 = .ok (.ishr, 1) := by decide +kernel
theorem dL_act_258 : decode cL_act 258 = .ok (.iconst 1, 1) := by decide +kernel
theorem dL_act_259 : decode cL_act 259 = .ok (.iand, 1) := by decide +kernel
theorem dL_act_260 : decode cL_act 260 = .ok (.iconst 0, 1) := by decide +kernel
theorem dL_act_261 : decode cL_act 261 = .ok (.iconst 1, 1) := by decide +kernel
theorem dL_act_262 : decode cL_act 262 = .ok (.iconst 2, 1) := by decide +kernel
theorem dL_act_263 : decode cL_act 263 = .ok (.iload_n 2, 1) := by decide +kernel
theorem dL_act_264 : decode cL_act 264 = .ok (.iconst 3, 1) := by decide +kernel
theorem dL_act_265 : decode cL_act 265 = .ok (.invokestatic 25, 3) := by decide +kernel
theorem dL_act_268 : decode cL_act 268 = .ok (.iload_n 1, 1) := by decide +kernel
theorem dL_act_269 : decode cL_act 269 = .ok (.iconst 5, 1) := by decide +kernel
theorem dL_act_270 : decode cL_act 270 = .ok (.ishr, 1) := by decide +kernel
theorem dL_act_271 : decode cL_act 271 = .ok (.iconst 1, 1) := by decide +kernel
theorem dL_act_272 : decode cL_act 272 = .ok (.iand, 1) := by decide +kernel
theorem dL_act_273 : decode cL_act 273 = .ok (.invokevirtual 98, 3) := by decide +kernel
theorem dL_act_276 : decode cL_act 276 = .ok (.lreturn, 1) := by decide +kernel
theorem dL_act_277 : decode cL_act 277 = .ok (.aload_n 0, 1) := by decide +kernel
theorem dL_act_278 : decode cL_act 278 = .ok (.iload 5, 2) := by decide +kernel
theorem dL_act_280 : decode cL_act 280 = .ok (.iload_n 1, 1) := by decide +kernel
theorem dL_act_281 : decode cL_act 281 = .ok (.iconst 4, 1) := by decide +kernel
theorem dL_act_282 : decode cL_act 282 = .ok (.ishr, 1) := by decide +kernel
theorem dL_act_283 : decode cL_act 283 = .ok (.bipush 10, 2) := by decide +kernel
theorem dL_act_285 : decode cL_act 285 = .ok (.invokestatic 25, 3) := by decide +kernel
theorem dL_act_288 : decode cL_act 288 = .ok (.invokevirtual 102, 3) := by decide +kernel
theorem dL_act_291 : decode cL_act 291 = .ok (.i2l, 1) := by decide +kernel
theorem dL_act_292 : decode cL_act 292 = .ok (.lreturn, 1) := by decide +kernel
theorem dL_act_293 : decode cL_act 293 = .ok (.aload_n 0, 1) := by decide +kernel
theorem dL_act_294 : decode cL_act 294 = .ok (.iload_n 2, 1) := by decide +kernel
theorem dL_act_295 : decode cL_act 295 = .ok (.iload 4, 2) := by decide +kernel
theorem dL_act_297 : decode cL_act 297 = .ok (.iconst 1, 1) := by decide +kernel
theorem dL_act_298 : decode cL_act 298 = .ok (.iadd, 1) := by decide +kernel
theorem dL_act_299 : decode cL_act 299 = .ok (.invokestatic 25, 3) := by decide +kernel
theorem dL_act_302 : decode cL_act 302 = .ok (.iconst 1, 1) := by decide +kernel
theorem dL_act_303 : decode cL_act 303 = .ok (.isub, 1) := by decide +kernel
theorem dL_act_304 : decode cL_act 304 = .ok (.iconst 1, 1) := by decide +kernel
theorem dL_act_305 : decode cL_act 305 = .ok (.iload_n 1, 1) := by decide +kernel
theorem dL_act_306 : decode cL_act 306 = .ok (.iconst 4, 1) := by decide +kernel
theorem dL_act_307 : decode cL_act 307 = .ok (.ishr, 1) := by decide +kernel
theorem dL_act_308 : decode cL_act 308 = .ok (.bipush 8, 2) := by decide +kernel
theorem dL_act_310 : decode cL_act 310 = .ok (.invokestatic 25, 3) := by decide +kernel
theorem dL_act_313 : decode cL_act 313 = .ok (.iadd, 1) := by decide +kernel
theorem dL_act_314 : decode cL_act 314 = .ok (.iload_n 1, 1) := by decide +kernel
theorem dL_act_315 : decode cL_act 315 = .ok (.bipush 7, 2) := by decide +kernel
theorem dL_act_317 : decode cL_act 317 = .ok (.ishr, 1) := by decide +kernel
theorem dL_act_318 : decode cL_act 318 = .ok (.bipush 10, 2) := by decide +kernel
theorem dL_act_320 : decode cL_act 320 = .ok (.invokestatic 25, 3) := by decide +kernel
theorem dL_act_323 : decode cL_act 323 = .ok (.iload_n 1, 1) := by decide +kernel
theorem dL_act_324 : decode cL_act 324 = .ok (.bipush 11, 2) := by decide +kernel
theorem dL_act_326 : decode cL_act 326 = .ok (.ishr, 1) := by decide +kernel
theorem dL_act_327 : decode cL_act 327 = .ok (.iconst 4, 1) := by decide +kernel
theorem dL_act_328 : decode cL_act 328 = .ok (.invokestatic 25, 3) := by decide +kernel
theorem dL_act_331 : decode cL_act 331 = .ok (.invokevirtual 105, 3) := by decide +kernel
theorem dL_act_334 : decode cL_act 334 = .ok (.i2l, 1) := by decide +kernel
theorem dL_act_335 : decode cL_act 335 = .ok (.lreturn, 1) := by decide +kernel
theorem dL_act_336 : decode cL_act 336 = .ok (.aload_n 0, 1) := by decide +kernel
theorem dL_act_337 : decode cL_act 337 = .ok (.iload_n 2, 1) := by decide +kernel
theorem dL_act_338 : decode cL_act 338 = .ok (.bipush 6, 2) := by decide +kernel
theorem dL_act_340 : decode cL_act 340 = .ok (.invokestatic 25, 3) := by decide +kernel
theorem dL_act_343 : decode cL_act 343 = .ok (.iload_n 2, 1) := by decide +kernel
theorem dL_act_344 : decode cL_act 344 = .ok (.iconst 3, 1) := by decide +kernel
theorem dL_act_345 : decode cL_act 345 = .ok (.ishr, 1) := by decide +kernel
theorem dL_act_346 : decode cL_act 346 = .ok (.bipush 24, 2) := by decide +kernel
theorem dL_act_348 : decode cL_act 348 = .ok (.invokestatic 25, 3) := by decide +kernel
theorem dL_act_351 : decode cL_act 351 = .ok (.iload_n 1, 1) := by decide +kernel
theorem dL_act_352 : decode cL_act 352 = .ok (.iconst 4, 1) := by decide +kernel
theorem dL_act_353 : decode cL_act 353 = .ok (.ishr, 1) := by decide +kernel
theorem dL_act_354 : decode cL_act 354 = .ok (.bipush 42, 2) := by decide +kernel
theorem dL_act_356 : decode cL_act 356 = .ok (.invokestatic 25, 3) := by decide +kernel
theorem dL_act_359 : decode cL_act 359 = .ok (.bipush 21, 2) := by decide +kernel
theorem dL_act_361 : decode cL_act 361 = .ok (.isub, 1) := by decide +kernel
theorem dL_act_362 : decode cL_act 362 = .ok (.invokevirtual 109, 3) := by decide +kernel
theorem dL_act_365 : decode cL_act 365 = .ok (.i2l, 1) := by decide +kernel
theorem dL_act_366 : decode cL_act 366 = .ok (.lreturn, 1) := by decide +kernel
theorem dL_act_367 : decode cL_act 367 = .ok (.aload_n 0, 1) := by decide +kernel
theorem dL_act_368 : decode cL_act 368 = .ok (.iload_n 2, 1) := by decide +kernel
theorem dL_act_369 : decode cL_act 369 = .ok (.bipush 6, 2) := by decide +kernel
theorem dL_act_371 : decode cL_act 371 = .ok (.invokestatic 25, 3) := by decide +kernel
theorem dL_act_374 : decode cL_act 374 = .ok (.iload_n 1, 1) := by decide +kernel
theorem dL_act_375 : decode cL_act 375 = .ok (.iconst 4, 1) := by decide +kernel
theorem dL_act_376 : decode cL_act 376 = .ok (.ishr, 1) := by decide +kernel
theorem dL_act_377 : decode cL_act 377 = .ok (.bipush 6, 2) := by decide +kernel
theorem dL_act_379 : decode cL_act 379 = .ok (.invokestatic 25, 3) := by decide +kernel
theorem dL_act_382 : decode cL_act 382 = .ok (.iload_n 1, 1) := by decide +kernel
theorem dL_act_383 : decode cL_act 383 = .ok (.bipush 7, 2) := by decide +kernel
theorem dL_act_385 : decode cL_act 385 = .ok (.ishr, 1) := by decide +kernel
theorem dL_act_386 : decode cL_act 386 = .ok (.iconst 3, 1) := by decide +kernel
theorem dL_act_387 : decode cL_act 387 = .ok (.invokestatic 25, 3) := by decide +kernel
theorem dL_act_390 : decode cL_act 390 = .ok (.invokevirtual 112, 3) := by decide +kernel
theorem dL_act_393 : decode cL_act 393 = .ok (.i2l, 1) := by decide +kernel
theorem dL_act_394 : decode cL_act 394 = .ok (.ldc2_w 86, 3) := by decide +kernel
theorem dL_act_397 : decode cL_act 397 = .ok (.lmul, 1) := by decide +kernel
theorem dL_act_398 : decode cL_act 398 = .ok (.aload_n 0, 1) := by decide +kernel
theorem dL_act_399 : decode cL_act 399 = .ok (.iload_n 2, 1) := by decide +kernel
theorem dL_act_400 : decode cL_act 400 = .ok (.iconst 3, 1) := by decide +kernel
theorem dL_act_401 : decode cL_act 401 = .ok (.ishr, 1) := by decide +kernel
theorem dL_act_402 : decode cL_act 402 = .ok (.bipush 6, 2) := by decide +kernel
theorem dL_act_404 : decode cL_act 404 = .ok (.invokestatic 25, 3) := by decide +kernel
theorem dL_act_407 : decode cL_act 407 = .ok (.invokevirtual 115, 3) := by decide +kernel
theorem dL_act_410 : decode cL_act 410 = .ok (.i2l, 1) := by decide +kernel
theorem dL_act_411 : decode cL_act 411 = .ok (.ladd, 1) := by decide +kernel
theorem dL_act_412 : decode cL_act 412 = .ok (.lreturn, 1) := by decide +kernel
theorem dL_act_413 : decode cL_act 413 = .ok (.aload_n 0, 1) := by decide +kernel
theorem dL_act_414 : decode cL_act 414 = .ok (.iload_n 2, 1) := by decide +kernel
theorem dL_act_415 : decode cL_act 415 = .ok (.bipush 6, 2) := by decide +kernel
theorem dL_act_417 : decode cL_act 417 = .ok (.invokestatic 25, 3) := by decide +kernel
theorem dL_act_420 : decode cL_act 420 = .ok (.iload_n 1, 1) := by decide +kernel
theorem dL_act_421 : decode cL_act 421 = .ok (.iconst 4, 1) := by decide +kernel
theorem dL_act_422 : decode cL_act 422 = .ok (.ishr, 1) := by decide +kernel
theorem dL_act_423 : decode cL_act 423 = .ok (.iconst 1, 1) := by decide +kernel
theorem dL_act_424 : decode cL_act 424 = .ok (.iand, 1) := by decide +kernel
theorem dL_act_425 : decode cL_act 425 = .ok (.invokevirtual 118, 3) := by decide +kernel
theorem dL_act_428 : decode cL_act 428 = .ok (.i2l, 1) := by decide +kernel
theorem dL_act_429 : decode cL_act 429 = .ok (.lreturn, 1) := by decide +kernel
theorem dL_act_430 : decode cL_act 430 = .ok (.aload_n 0, 1) := by decide +kernel
theorem dL_act_431 : decode cL_act 431 = .ok (.iload_n 1, 1) := by decide +kernel
theorem dL_act_432 : decode cL_act 432 = .ok (.iconst 4, 1) := by decide +kernel
theorem dL_act_433 : decode cL_act 433 = .ok (.ishr, 1) := by decide +kernel
theorem dL_act_434 : decode cL_act 434 = .ok (.iconst 1, 1) := by decide +kernel
theorem dL_act_435 : decode cL_act 435 = .ok (.iand, 1) := by decide +kernel
theorem dL_act_436 : decode cL_act 436 = .ok (.iload_n 1, 1) := by decide +kernel
theorem dL_act_437 : decode cL_act 437 = .ok (.iconst 5, 1) := by decide +kernel
theorem dL_act_438 : decode cL_act 438 = .ok (.ishr, 1) := by decide +kernel
theorem dL_act_439 : decode cL_act 439 = .ok (.iconst 1, 1) := by decide +kernel
theorem dL_act_440 : decode cL_act 440 = .ok (.iand, 1) := by decide +kernel
theorem dL_act_441 : decode cL_act 441 = .ok (.iload_n 2, 1) := by decide +kernel
theorem dL_act_442 : decode cL_act 442 = .ok (.bipush 11, 2) := by decide +kernel
theorem dL_act_444 : decode cL_act 444 = .ok (.invokestatic 25, 3) := by decide +kernel
theorem dL_act_447 : decode cL_act 447 = .ok (.invokevirtual 121, 3) := by decide +kernel
theorem dL_act_450 : decode cL_act 450 = .ok (.i2l, 1) := by decide +kernel
theorem dL_act_451 : decode cL_act 451 = .ok (.lreturn, 1) := by decide +kernel
theorem dL_act_452 : decode cL_act 452 = .ok (.iload_n 1, 1) := by decide +kernel
theorem dL_act_453 : decode cL_act 453 = .ok (.bipush 16, 2) := by decide +kernel
theorem dL_act_455 : decode cL_act 455 = .ok (.iand, 1) := by decide +kernel
theorem dL_act_456 : decode cL_act 456 = .ok (.ifCond .eq 38, 3) := by decide +kernel
theorem dL_act_459 : decode cL_act 459 = .ok (.aload_n 0, 1) := by decide +kernel
theorem dL_act_460 : decode cL_act 460 = .ok (.iconst 1, 1) := by decide +kernel
theorem dL_act_461 : decode cL_act 461 = .ok (.iload_n 2, 1) := by decide +kernel
theorem dL_act_462 : decode cL_act 462 = .ok (.bipush 12, 2) := by decide +kernel
theorem dL_act_464 : decode cL_act 464 = .ok (.invokestatic 25, 3) := by decide +kernel
theorem dL_act_467 : decode cL_act 467 = .ok (.iadd, 1) := by decide +kernel
theorem dL_act_468 : decode cL_act 468 = .ok (.iload_n 1, 1) := by decide +kernel
theorem dL_act_469 : decode cL_act 469 = .ok (.iconst 5, 1) := by decide +kernel
theorem dL_act_470 : decode cL_act 470 = .ok (.ishr, 1) := by decide +kernel
theorem dL_act_471 : decode cL_act 471 = .ok (.bipush 25, 2) := by decide +kernel
theorem dL_act_473 : decode cL_act 473 = .ok (.invokestatic 25, 3) := by decide +kernel
theorem dL_act_476 : decode cL_act 476 = .ok (.bipush 12, 2) := by decide +kernel
theorem dL_act_478 : decode cL_act 478 = .ok (.isub, 1) := by decide +kernel
theorem dL_act_479 : decode cL_act 479 = .ok (.iload_n 1, 1) := by decide +kernel
theorem dL_act_480 : decode cL_act 480 = .ok (.bipush 10, 2) := by decide +kernel
theorem dL_act_482 : decode cL_act 482 = .ok (.ishr, 1) := by decide +kernel
theorem dL_act_483 : decode cL_act 483 = .ok (.iconst 3, 1) := by decide +kernel
theorem dL_act_484 : decode cL_act 484 = .ok (.invokestatic 25, 3) := by decide +kernel
theorem dL_act_487 : decode cL_act 487 = .ok (.invokevirtual 124, 3) := by decide +kernel
theorem dL_act_490 : decode cL_act 490 = .ok (.i2l, 1) := by decide +kernel
theorem dL_act_491 : decode cL_act 491 = .ok (.goto 35, 3) := by decide +kernel
theorem dL_act_494 : decode cL_act 494 = .ok (.aload_n 0, 1) := by decide +kernel
theorem dL_act_495 : decode cL_act 495 = .ok (.iconst 1, 1) := by decide +kernel
theorem dL_act_496 : decode cL_act 496 = .ok (.iload_n 2, 1) := by decide +kernel
theorem dL_act_497 : decode cL_act 497 = .ok (.bipush 12, 2) := by decide +kernel
theorem dL_act_499 : decode cL_act 499 = .ok (.invokestatic 25, 3) := by decide +kernel
theorem dL_act_502 : decode cL_act 502 = .ok (.iadd, 1) := by decide +kernel
theorem dL_act_503 : decode cL_act 503 = .ok (.iload_n 1, 1) := by decide +kernel
theorem dL_act_504 : decode cL_act 504 = .ok (.iconst 5, 1) := by decide +kernel
theorem dL_act_505 : decode cL_act 505 = .ok (.ishr, 1) := by decide +kernel
theorem dL_act_506 : decode cL_act 506 = .ok (.bipush 25, 2) := by decide +kernel
theorem dL_act_508 : decode cL_act 508 = .ok (.invokestatic 25, 3) := by decide +kernel
theorem dL_act_511 : decode cL_act 511 = .ok (.bipush 12, 2) := by decide +kernel
theorem dL_act_513 : decode cL_act 513 = .ok (.isub, 1) := by decide +kernel
theorem dL_act_514 : decode cL_act 514 = .ok (.iload_n 1, 1) := by decide +kernel
theorem dL_act_515 : decode cL_act 515 = .ok (.bipush 10, 2) := by decide +kernel
theorem dL_act_517 : decode cL_act 517 = .ok (.ishr, 1) := by decide +kernel
theorem dL_act_518 : decode cL_act 518 = .ok (.iconst 3, 1) := by decide +kernel
theorem dL_act_519 : decode cL_act 519 = .ok (.invokestatic 25, 3) := by decide +kernel
theorem dL_act_522 : decode cL_act 522 = .ok (.invokevirtual 127, 3) := by decide +kernel
theorem dL_act_525 : decode cL_act 525 = .ok (.i2l, 1) := by decide +kernel
theorem dL_act_526 : decode cL_act 526 = .ok (.lreturn, 1) := by decide +kernel
theorem dL_act_527 : decode cL_act 527 = .ok (.iload_n 1, 1) := by decide +kernel
theorem dL_act_528 : decode cL_act 528 = .ok (.bipush 16, 2) := by decide +kernel
theorem dL_act_530 : decode cL_act 530 = .ok (.iand, 1) := by decide +kernel
theorem dL_act_531 : decode cL_act 531 = .ok (.ifCond .eq 11, 3) := by decide +kernel
theorem dL_act_534 : decode cL_act 534 = .ok (.aload_n 0, 1) := by decide +kernel
theorem dL_act_535 : decode cL_act 535 = .ok (.invokevirtual 130, 3) := by decide +kernel
theorem dL_act_538 : decode cL_act 538 = .ok (.i2l, 1) := by decide +kernel
theorem dL_act_539 : decode cL_act 539 = .ok (.goto 8, 3) := by decide +kernel
theorem dL_act_542 : decode cL_act 542 = .ok (.aload_n 0, 1) := by decide +kernel
theorem dL_act_543 : decode cL_act 543 = .ok (.invokevirtual 133, 3) := by decide +kernel
theorem dL_act_546 : decode cL_act 546 = .ok (.i2l, 1) := by decide +kernel
theorem dL_act_547 : decode cL_act 547 = .ok (.lreturn, 1) := by decide +kernel
set_option maxRecDepth 20000 in
theorem ggL_law_X10_init : GoodIn wsL_law wsX10_init := goodIn_r _ [8, 9, 10, 11, 12, 13, 14, 15, 16, 17, 18, 19, 20, 21, 22, 23, 24, 25, 26, 27, 28, 29, 30, 31, 32, 33, 34, 35, 36, 37, 38, 39, 40, 41, 42, 43, 44, 45, 46, 47, 48, 49, 50, 51, 52, 53, 54, 55, 56, 57, 58, 59, 60, 61, 62, 63, 64, 3, 65, 66, 67, 68, 69, 70, 71, 72, 73, 74, 75, 76, 77, 78, 79, 80, 81, 82, 83, 84, 85, 86, 87, 88, 89, 90, 91, 92, 93, 94, 95, 96, 97, 98, 99, 100, 101, 102, 103, 104, 105, 106, 107, 108, 109, 110, 111, 112, 113, 114, 115, 116, 117, 118, 119, 120, 121, 122, 123, 124, 125, 126, 127, 128, 129, 130, 131, 132, 133, 134, 135, 136, 137, 138, 139, 140, 141, 142, 143, 144, 145, 146, 147, 148, 149, 150, 151, 152, 153, 154, 155, 156, 157, 158, 159, 160, 161, 162, 163, 164, 165, 166, 167, 168, 169, 170, 171, 172, 173, 174, 175, 176, 177, 178, 179, 180, 181, 182, 183, 184, 185, 186, 187, 188, 189, 190, 191, 192, 193, 194, 195, 196, 782, 783, 769, 770, 771, 772, 773, 774, 775, 776, 777, 778, 779, 780, 781, 784, 785, 786, 787, 788, 789, 790, 791, 792, 793, 794, 795, 796, 797, 798, 799, 800, 801, 802, 803, 804, 805, 806, 807, 808, 809, 810, 811, 812, 813, 814, 815, 816, 817, 818, 819, 820, 821, 822, 823, 824, 825, 826, 827, 828] (by decide +kernel) (by decide +kernel)
set_option maxRecDepth 20000 in
theorem gL_law_X10_init : GoodIn wsL_law (wsX10_init) := ggL_law_X10_init
