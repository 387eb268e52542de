theorem dL_fight_773 : decode cL_fight 773 = .ok (.aload 5, 2) := by decide +kernel
theorem dL_fight_775 : decode cL_fight 775 = .ok (.bipush 7, 2) := by decide +kernel
theorem dL_fight_777 : decode cL_fight 777 = .ok (.iload 8, 2) := by decide +kernel
theorem dL_fight_779 : decode cL_fight 779 = .ok (.imul, 1) := by decide +kernel
theorem dL_fight_780 : decode cL_fight 780 = .ok (.iconst 2, 1) := by decide +kernel
theorem dL_fight_781 : decode cL_fight 781 = .ok (.iadd, 1) := by decide +kernel
theorem dL_fight_782 : decode cL_fight 782 = .ok (.iaload, 1) := by decide +kernel
theorem dL_fight_783 : decode cL_fight 783 = .ok (.aload 5, 2) := by decide +kernel
theorem dL_fight_785 : decode cL_fight 785 = .ok (.bipush 7, 2) := by decide +kernel
theorem dL_fight_787 : decode cL_fight 787 = .ok (.iload 8, 2) := by decide +kernel
theorem dL_fight_789 : decode cL_fight 789 = .ok (.imul, 1) := by decide +kernel
theorem dL_fight_790 : decode cL_fight 790 = .ok (.iconst 3, 1) := by decide +kernel
theorem dL_fight_791 : decode cL_fight 791 = .ok (.iadd, 1) := by decide +kernel
theorem dL_fight_792 : decode cL_fight 792 = .ok (.iaload, 1) := by decide +kernel
theorem dL_fight_793 : decode cL_fight 793 = .ok (.aload 5, 2) := by decide +kernel
theorem dL_fight_795 : decode cL_fight 795 = .ok (.bipush 7, 2) := by decide +kernel
theorem dL_fight_797 : decode cL_fight 797 = .ok (.iload 8, 2) := by decide +kernel
theorem dL_fight_799 : decode cL_fight 799 = .ok (.imul, 1) := by decide +kernel
theorem dL_fight_800 : decode cL_fight 800 = .ok (.iconst 4, 1) := by decide +kernel
theorem dL_fight_801 : decode cL_fight 801 = .ok (.iadd, 1) := by decide +kernel
theorem dL_fight_802 : decode cL_fight 802 = .ok (.iaload, 1) := by decide +kernel
theorem dL_fight_803 : decode cL_fight 803 = .ok (.aload 5, 2) := by decide +kernel
theorem dL_fight_805 : decode cL_fight 805 = .ok (.bipush 7, 2) := by decide +kernel
theorem dL_fight_807 : decode cL_fight 807 = .ok (.iload 8, 2) := by decide +kernel
theorem dL_fight_809 : decode cL_fight 809 = .ok (.imul, 1) := by decide +kernel
theorem dL_fight_810 : decode cL_fight 810 = .ok (.iconst 5, 1) := by decide +kernel
theorem dL_fight_811 : decode cL_fight 811 = .ok (.iadd, 1) := by decide +kernel
theorem dL_fight_812 : decode cL_fight 812 = .ok (.iaload, 1) := by decide +kernel
theorem dL_fight_813 : decode cL_fight 813 = .ok (.aload 5, 2) := by decide +kernel
theorem dL_fight_815 : decode cL_fight 815 = .ok (.bipush 7, 2) := by decide +kernel
theorem dL_fight_817 : decode cL_fight 817 = .ok (.iload 8, 2) := by decide +kernel
theorem dL_fight_819 : decode cL_fight 819 = .ok (.imul, 1) := by decide +kernel
theorem dL_fight_820 : decode cL_fight 820 = .ok (.bipush 6, 2) := by decide +kernel
theorem dL_fight_822 : decode cL_fight 822 = .ok (.iadd, 1) := by decide +kernel
theorem dL_fight_823 : decode cL_fight 823 = .ok (.iaload, 1) := by decide +kernel
theorem dL_fight_824 : decode cL_fight 824 = .ok (.invokestatic 33, 3) := by decide +kernel
theorem dL_fight_827 : decode cL_fight 827 = .ok (.ifCond .eq 7, 3) := by decide +kernel
theorem dL_fight_830 : decode cL_fight 830 = .ok (.iconst 1, 1) := by decide +kernel
theorem dL_fight_831 : decode cL_fight 831 = .ok (.goto 4, 3) := by decide +kernel
theorem dL_fight_834 : decode cL_fight 834 = .ok (.iconst 0, 1) := by decide +kernel
theorem dL_fight_835 : decode cL_fight 835 = .ok (.istore 7, 2) := by decide +kernel
theorem dL_fight_837 : decode cL_fight 837 = .ok (.iinc 8 1, 3) := by decide +kernel
theorem dL_fight_840 : decode cL_fight 840 = .ok (.goto (-280), 3) := by decide +kernel
theorem dL_fight_843 : decode cL_fight 843 = .ok (.iload 7, 2) := by decide +kernel
theorem dL_fight_845 : decode cL_fight 845 = .ok (.ifCond .eq 26, 3) := by decide +kernel
theorem dL_fight_848 : decode cL_fight 848 = .ok (.aload_n 0, 1) := by decide +kernel
theorem dL_fight_849 : decode cL_fight 849 = .ok (.invokevirtual 37, 3) := by decide +kernel
theorem dL_fight_852 : decode cL_fight 852 = .ok (.bipush (-4), 2) := by decide +kernel
theorem dL_fight_854 : decode cL_fight 854 = .ok (.if_icmp .ne 17, 3) := by decide +kernel
theorem dL_fight_857 : decode cL_fight 857 = .ok (.aload_n 0, 1) := by decide +kernel
theorem dL_fight_858 : decode cL_fight 858 = .ok (.invokevirtual 40, 3) := by decide +kernel
theorem dL_fight_861 : decode cL_fight 861 = .ok (.aload_n 3, 1) := by decide +kernel
theorem dL_fight_862 : decode cL_fight 862 = .ok (.iconst 1, 1) := by decide +kernel
theorem dL_fight_863 : decode cL_fight 863 = .ok (.iaload, 1) := by decide +kernel
theorem dL_fight_864 : decode cL_fight 864 = .ok (.if_icmp .ne 7, 3) := by decide +kernel
theorem dL_fight_867 : decode cL_fight 867 = .ok (.iconst 1, 1) := by decide +kernel
theorem dL_fight_868 : decode cL_fight 868 = .ok (.goto 4, 3) := by decide +kernel
theorem dL_fight_871 : decode cL_fight 871 = .ok (.iconst 0, 1) := by decide +kernel
theorem dL_fight_872 : decode cL_fight 872 = .ok (.ireturn, 1) := by decide +kernel
set_option maxRecDepth 20000 in
theorem ggL_act_L_some : GoodIn wsL_act wsL_some := goodIn_r _ [7, 8] (by decide +kernel) (by decide +kernel)
set_option maxRecDepth 20000 in
theorem gL_act_L_some : GoodIn wsL_act (va_wsS RL 25 yL_some wsL_some) := goodIn_app (goodIn_of _ (by decide +kernel)) ggL_act_L_some
set_option maxRecDepth 20000 in
theorem ggL_act_X10_sum : GoodIn wsL_act wsX10_sum := goodIn_r _ [13, 14, 15, 16, 17, 12, 18, 19, 20, 21, 22, 23, 24, 25, 26, 27, 28, 29, 30, 31, 32, 33, 34, 35, 36, 37, 475, 476, 477, 478, 479, 480, 481, 482, 483, 484, 485, 486, 487, 488, 489, 490, 491, 492, 493, 494, 495, 496, 497, 498, 499, 500] (by decide +kernel) (by decide +kernel)
set_option maxRecDepth 20000 in
theorem gL_act_X10_sum : GoodIn wsL_act (wsV RL 62 RX10 yX10_sum wsX10_sum) := goodIn_app (goodIn_of _ (by decide +kernel)) ggL_act_X10_sum
set_option maxRecDepth 20000 in
theorem ggL_act_X10_close : GoodIn wsL_act wsX10_close := goodIn_r _ [41, 14, 15, 16, 17, 12, 18, 19, 20, 21, 22, 23, 24, 25, 42, 43, 44, 32, 45, 46, 47, 48, 49, 50, 51, 52, 53, 54, 55, 56, 57, 58, 59, 475, 476, 477, 478, 479, 480, 481, 482, 483, 484, 485, 486, 487, 488, 489, 490, 491, 492, 493, 494, 495, 496, 497, 498, 499, 500] (by decide +kernel) (by decide +kernel)
set_option maxRecDepth 20000 in
theorem gL_act_X10_close : GoodIn wsL_act (wsV RL 68 RX10 yX10_close wsX10_close) := goodIn_app (goodIn_of _ (by decide +kernel)) ggL_act_X10_close
set_option maxRecDepth 20000 in
theorem ggL_act_X10_lead : GoodIn wsL_act wsX10_lead := goodIn_r _ [63, 14, 64, 15, 16, 17, 12, 18, 19, 20, 21, 22, 23, 24, 25, 65, 51, 52, 32, 53, 54, 475, 476, 477, 478, 479, 480, 481, 482, 483, 484, 485, 486, 487, 488, 489, 490, 491, 492, 493, 494, 495, 496, 497, 498, 499, 500] (by decide +kernel) (by decide +kernel)
set_option maxRecDepth 20000 in
theorem gL_act_X10_lead : GoodIn wsL_act (wsV RL 70 RX10 yX10_lead wsX10_lead) := goodIn_app (goodIn_of _ (by decide +kernel)) ggL_act_X10_lead
set_option maxRecDepth 20000 in
theorem ggL_act_X10_margin : GoodIn wsL_act wsX10_margin := goodIn_r _ [69, 70, 64, 71, 72, 12, 73, 23, 24, 25, 15, 16, 17, 18, 14, 19, 20, 21, 22, 74, 75, 76, 77, 78, 79, 80, 51, 52, 32, 53, 54, 81, 82, 83, 84, 85, 86, 48, 87, 88, 89, 90, 91, 92, 93, 94, 95, 96, 43, 44, 45, 46, 47, 49, 50, 55, 56, 57, 58, 59, 97, 98, 99, 100, 475, 476, 477, 478, 479, 480, 481, 482, 483, 484, 485, 486, 487, 488, 489, 490, 491, 492, 493, 494, 495, 496, 497, 498, 499, 500, 501, 502] (by decide +kernel) (by decide +kernel)
set_option maxRecDepth 20000 in
theorem gL_act_X10_margin : GoodIn wsL_act (wsV RL 72 RX10 yX10_margin wsX10_margin) := goodIn_app (goodIn_of _ (by decide +kernel)) ggL_act_X10_margin
set_option maxRecDepth 20000 in
theorem ggL_act_X10_card : GoodIn wsL_act wsX10_card := goodIn_r _ [104, 70, 64, 71, 72, 12, 73, 23, 24, 25, 19, 20, 21, 22, 14, 105, 106, 107, 77, 108, 79, 109, 110, 111, 32, 112, 113, 114, 115, 75, 76, 78, 80, 51, 52, 53, 54, 81, 82, 83, 84, 85, 86, 48, 87, 88, 89, 90, 91, 92, 93, 94, 95, 96, 43, 44, 45, 46, 47, 49, 50, 55, 56, 57, 58, 59, 97, 98, 99, 100, 475, 476, 477, 478, 479, 480, 481, 482, 483, 484, 485, 486, 487, 488, 489, 490, 491, 492, 493, 494, 495, 496, 497, 498, 499, 500, 501, 502] (by decide +kernel) (by decide +kernel)
set_option maxRecDepth 20000 in
theorem gL_act_X10_card : GoodIn wsL_act (wsV RL 76 RX10 yX10_card wsX10_card) := goodIn_app (goodIn_of _ (by decide +kernel)) ggL_act_X10_card
set_option maxRecDepth 20000 in
theorem ggL_act_X10_points : GoodIn wsL_act wsX10_points := goodIn_r _ [119, 70, 23, 24, 12, 25, 19, 20, 21, 22, 14, 26, 27, 28, 120, 121, 122, 77, 123, 79, 124, 89, 48, 90, 109, 110, 111, 32, 112, 113, 114, 115, 75, 76, 78, 80, 51, 52, 53, 54, 81, 82, 83, 84, 85, 86, 87, 88, 91, 92, 93, 94, 95, 96, 43, 44, 45, 46, 47, 49, 50, 55, 56, 57, 58, 59, 97, 98, 99, 100, 475, 476, 477, 478, 479, 480, 481, 482, 483, 484, 485, 486, 487, 488, 489, 490, 491, 492, 493, 494, 495, 496, 497, 498, 499, 500, 501, 502] (by decide +kernel) (by decide +kernel)
set_option maxRecDepth 20000 in
theorem gL_act_X10_points : GoodIn wsL_act (wsV RL 79 RX10 yX10_points wsX10_points) := goodIn_app (goodIn_of _ (by decide +kernel)) ggL_act_X10_points
set_option maxRecDepth 20000 in
theorem ggL_act_X10_end : GoodIn wsL_act wsX10_end := goodIn_r _ [128, 70, 71, 72, 12, 73, 23, 24, 25, 129, 130, 131, 132, 19, 20, 21, 22, 14, 105, 106, 107, 77, 108, 79, 109, 110, 111, 32, 112, 113, 114, 115, 75, 76, 78, 80, 51, 52, 53, 54, 81, 82, 83, 84, 85, 86, 48, 87, 88, 89, 90, 91, 92, 93, 94, 95, 96, 43, 44, 45, 46, 47, 49, 50, 55, 56, 57, 58, 59, 97, 98, 99, 100, 133, 134, 135, 136, 137, 138, 139, 140, 141, 142, 475, 476, 477, 478, 479, 480, 481, 482, 483, 484, 485, 486, 487, 488, 489, 490, 491, 492, 493, 494, 495, 496, 497, 498, 499, 500, 501, 502] (by decide +kernel) (by decide +kernel)
set_option maxRecDepth 20000 in
theorem gL_act_X10_end : GoodIn wsL_act (wsV RL 82 RX10 yX10_end wsX10_end) := goodIn_app (goodIn_of _ (by decide +kernel)) ggL_act_X10_end
set_option maxRecDepth 20000 in
theorem ggL_act_X10_others : GoodIn wsL_act wsX10_others := goodIn_r _ [146, 70, 71, 72, 12, 73, 23, 24, 25, 147, 148, 149, 77, 150, 79, 151, 152, 106, 107, 108, 109, 110, 111, 32, 112, 113, 114, 115, 75, 76, 78, 80, 51, 52, 53, 54, 81, 82, 83, 84, 85, 86, 48, 87, 88, 89, 90, 91, 92, 93, 94, 95, 96, 43, 44, 45, 46, 47, 49, 50, 55, 56, 57, 58, 59, 97, 98, 99, 100, 153, 134, 135, 142, 137, 138, 475, 476, 477, 478, 479, 480, 481, 482, 483, 484, 485, 486, 487, 501, 502, 488, 489, 490, 491, 492, 493, 494, 495, 496, 497, 498, 499, 500] (by decide +kernel) (by decide +kernel)
set_option maxRecDepth 20000 in
theorem gL_act_X10_others : GoodIn wsL_act (wsV RL 88 RX10 yX10_others wsX10_others) := goodIn_app (goodIn_of _ (by decide +kernel)) ggL_act_X10_others
set_option maxRecDepth 20000 in
theorem ggL_act_X10_men : GoodIn wsL_act wsX10_men := goodIn_r _ [157, 70, 71, 72, 12, 73, 23, 24, 25, 158, 159, 160, 77, 161, 79, 162, 163, 164, 32, 165, 166, 167, 168, 169, 170, 113, 171, 172, 173, 174, 175, 153, 134, 135, 152, 106, 107, 108, 109, 110, 111, 112, 114, 115, 75, 76, 78, 80, 51, 52, 53, 54, 81, 82, 83, 84, 85, 86, 48, 87, 88, 89, 90, 91, 92, 93, 94, 95, 96, 43, 44, 45, 46, 47, 49, 50, 55, 56, 57, 58, 59, 97, 98, 99, 100, 475, 476, 477, 478, 479, 480, 481, 482, 483, 484, 485, 486, 487, 501, 502, 488, 489, 490, 491, 492, 493, 494, 495, 496, 497, 498, 499, 500] (by decide +kernel) (by decide +kernel)
set_option maxRecDepth 20000 in
theorem gL_act_X10_men : GoodIn wsL_act (wsV RL 91 RX10 yX10_men wsX10_men) := goodIn_app (goodIn_of _ (by decide +kernel)) ggL_act_X10_men
set_option maxRecDepth 20000 in
theorem ggL_act_X10_seats : GoodIn wsL_act wsX10_seats := goodIn_r _ [179, 180, 23, 24, 12, 25, 181, 182, 183, 184, 185, 186, 187, 188, 189, 190, 191, 192, 193, 194, 195, 196, 197, 168, 169, 32, 170, 113, 171, 172, 173, 174, 175, 198, 199, 200, 201, 202, 203, 204, 205, 206, 207, 208, 209, 210, 475, 476, 477, 478, 479, 480, 481, 482, 483, 484, 485, 486, 487, 503, 504, 505, 506, 488, 489, 490, 491, 492, 493, 494, 495, 496, 497, 498, 499, 500] (by decide +kernel) (by decide +kernel)
set_option maxRecDepth 20000 in
theorem gL_act_X10_seats : GoodIn wsL_act (wsV RL 95 RX10 yX10_seats wsX10_seats) := goodIn_app (goodIn_of _ (by decide +kernel)) ggL_act_X10_seats
set_option maxRecDepth 20000 in
theorem ggL_act_X10_coins : GoodIn wsL_act wsX10_coins := goodIn_r _ [214, 215, 216, 23, 24, 12, 25, 129, 130, 131, 132, 19, 20, 21, 22, 14, 217, 218, 219, 220, 221, 222, 223, 224, 225, 195, 226, 227, 228, 229, 230, 231, 232, 233, 43, 44, 32, 45, 46, 47, 48, 49, 50, 51, 52, 53, 54, 55, 56, 57, 58, 59, 234, 106, 107, 77, 108, 79, 109, 110, 111, 112, 113, 114, 115, 75, 76, 78, 80, 81, 82, 83, 84, 85, 86, 87, 88, 89, 90, 91, 92, 93, 94, 95, 96, 97, 98, 99, 100, 235, 134, 135, 236, 237, 238, 239, 240, 241, 242, 243, 244, 245, 137, 138, 475, 476, 477, 478, 479, 480, 481, 482, 483, 484, 485, 486, 487, 507, 508, 509, 510, 488, 489, 490, 491, 492, 493, 494, 495, 496, 497, 498, 499, 500, 501, 502] (by decide +kernel) (by decide +kernel)
set_option maxRecDepth 20000 in
theorem gL_act_X10_coins : GoodIn wsL_act (wsV RL 98 RX10 yX10_coins wsX10_coins) := goodIn_app (goodIn_of _ (by decide +kernel)) ggL_act_X10_coins
set_option maxRecDepth 20000 in
theorem ggL_act_X10_delay : GoodIn wsL_act wsX10_delay := goodIn_r _ [249, 250, 19, 20, 21, 12, 22, 14, 23, 24, 25, 475, 476, 477, 478, 479, 480, 481, 482, 483, 484, 485, 486, 487, 511, 512, 513, 488, 489, 490, 491, 492, 493, 494, 495, 496, 497, 498, 499, 500] (by decide +kernel) (by decide +kernel)
set_option maxRecDepth 20000 in
theorem gL_act_X10_delay : GoodIn wsL_act (wsV RL 102 RX10 yX10_delay wsX10_delay) := goodIn_app (goodIn_of _ (by decide +kernel)) ggL_act_X10_delay
set_option maxRecDepth 20000 in
theorem ggL_act_X10_buttons : GoodIn wsL_act wsX10_buttons := goodIn_r _ [254, 14, 255, 23, 24, 12, 25, 256, 257, 258, 259, 260, 261, 262, 89, 48, 90, 263, 264, 265, 266, 267, 268, 269, 270, 271, 272, 273, 172, 173, 32, 174, 175, 274, 275, 276, 277, 278, 279, 280, 281, 282, 283, 284, 285, 286, 287, 288, 289, 290, 291, 292, 293, 294, 295, 296, 297, 298, 299, 300, 301, 302, 303, 304, 305, 306, 307, 308, 475, 476, 477, 478, 479, 480, 481, 482, 483, 484, 485, 486, 487, 488, 489, 490, 491, 492, 493, 494, 495, 496, 497, 498, 499, 500, 514, 515, 516, 517, 518, 511, 512, 513] (by decide +kernel) (by decide +kernel)
set_option maxRecDepth 20000 in
theorem gL_act_X10_buttons : GoodIn wsL_act (wsV RL 105 RX10 yX10_buttons wsX10_buttons) := goodIn_app (goodIn_of _ (by decide +kernel)) ggL_act_X10_buttons
set_option maxRecDepth 20000 in
theorem ggL_act_X10_tell : GoodIn wsL_act wsX10_tell := goodIn_r _ [312, 250, 313, 314, 12, 315, 23, 24, 25, 316, 317, 318, 319, 320, 321, 322, 323, 324, 325, 475, 476, 477, 478, 479, 480, 481, 482, 483, 484, 485, 486, 487, 511, 512, 513] (by decide +kernel) (by decide +kernel)
set_option maxRecDepth 20000 in
theorem gL_act_X10_tell : GoodIn wsL_act (wsV RL 109 RX10 yX10_tell wsX10_tell) := goodIn_app (goodIn_of _ (by decide +kernel)) ggL_act_X10_tell
set_option maxRecDepth 20000 in
theorem ggL_act_X10_same : GoodIn wsL_act wsX10_same := goodIn_r _ [329, 330, 313, 314, 12, 315, 23, 24, 25, 331, 332, 333, 334, 335, 336, 337, 338, 339, 194, 195, 196, 340, 341, 342, 319, 343, 344, 317, 318, 320, 321, 345, 81, 82, 346, 347, 348, 349, 475, 476, 477, 478, 479, 480, 481, 482, 483, 484, 485, 486, 487, 519, 520, 521, 522, 523, 511, 512, 513] (by decide +kernel) (by decide +kernel)
set_option maxRecDepth 20000 in
theorem gL_act_X10_same : GoodIn wsL_act (wsV RL 112 RX10 yX10_same wsX10_same) := goodIn_app (goodIn_of _ (by decide +kernel)) ggL_act_X10_same
set_option maxRecDepth 20000 in
theorem ggL_act_X10_unlike : GoodIn wsL_act wsX10_unlike := goodIn_r _ [353, 330, 313, 314, 12, 315, 23, 24, 25, 354, 355, 356, 334, 357, 338, 358, 359, 360, 47, 48, 49, 361, 362, 363, 364, 340, 341, 342, 319, 343, 344, 317, 318, 320, 321, 345, 365, 366, 367, 368, 475, 476, 477, 478, 479, 480, 481, 482, 483, 484, 485, 486, 487, 519, 520, 521, 522, 523, 511, 512, 513] (by decide +kernel) (by decide +kernel)
set_option maxRecDepth 20000 in
theorem gL_act_X10_unlike : GoodIn wsL_act (wsV RL 115 RX10 yX10_unlike wsX10_unlike) := goodIn_app (goodIn_of _ (by decide +kernel)) ggL_act_X10_unlike
set_option maxRecDepth 20000 in
theorem ggL_act_X10_lean : GoodIn wsL_act wsX10_lean := goodIn_r _ [372, 330, 64, 313, 314, 12, 315, 23, 24, 25, 373, 374, 375, 334, 376, 338, 358, 361, 362, 363, 364, 340, 341, 342, 319, 343, 344, 317, 318, 320, 321, 345, 365, 366, 367, 368, 359, 377, 378, 379, 380, 475, 476, 477, 478, 479, 480, 481, 482, 483, 484, 485, 486, 487, 519, 520, 521, 522, 523, 511, 512, 513] (by decide +kernel) (by decide +kernel)
set_option maxRecDepth 20000 in
theorem gL_act_X10_lean : GoodIn wsL_act (wsV RL 118 RX10 yX10_lean wsX10_lean) := goodIn_app (goodIn_of _ (by decide +kernel)) ggL_act_X10_lean
set_option maxRecDepth 20000 in
theorem ggL_act_X10_tenths : GoodIn wsL_act wsX10_tenths := goodIn_r _ [384, 250, 23, 24, 12, 25, 385, 386, 387, 319, 388, 389, 390, 391, 392, 393, 475, 476, 477, 478, 479, 480, 481, 482, 483, 484, 485, 486, 487, 511, 512, 513] (by decide +kernel) (by decide +kernel)
set_option maxRecDepth 20000 in
theorem gL_act_X10_tenths : GoodIn wsL_act (wsV RL 121 RX10 yX10_tenths wsX10_tenths) := goodIn_app (goodIn_of _ (by decide +kernel)) ggL_act_X10_tenths
set_option maxRecDepth 20000 in
theorem ggL_act_X10_open : GoodIn wsL_act wsX10_open := goodIn_r _ [397, 398, 399, 400, 12, 401, 23, 24, 25, 402, 403, 404, 405, 406, 407, 408, 409, 410, 411, 412, 413, 414, 415, 416, 417, 418, 419, 420, 421, 422, 386, 387, 319, 388, 389, 423, 424, 425, 426, 427, 428, 429, 430, 86, 48, 87, 431, 432, 433, 434, 435, 436, 437, 438, 439, 440, 441, 442, 443, 475, 476, 477, 478, 479, 480, 481, 482, 483, 484, 485, 486, 487, 524, 525, 526, 527, 528, 529, 511, 512, 513] (by decide +kernel) (by decide +kernel)
set_option maxRecDepth 20000 in
theorem gL_act_X10_open : GoodIn wsL_act (wsV RL 124 RX10 yX10_open wsX10_open) := goodIn_app (goodIn_of _ (by decide +kernel)) ggL_act_X10_open
set_option maxRecDepth 20000 in
theorem ggL_act_X10_hidden : GoodIn wsL_act wsX10_hidden := goodIn_r _ [447, 398, 399, 400, 12, 401, 23, 24, 25, 448, 449, 450, 405, 451, 420, 409, 421, 422, 386, 387, 319, 388, 389, 452, 453, 454, 455, 408, 407, 410, 411, 412, 413, 414, 415, 423, 424, 425, 436, 437, 438, 439, 426, 427, 428, 429, 430, 86, 48, 87, 431, 432, 433, 434, 435, 440, 441, 442, 443, 475, 476, 477, 478, 479, 480, 481, 482, 483, 484, 485, 486, 487, 524, 525, 526, 527, 528, 529, 511, 512, 513] (by decide +kernel) (by decide +kernel)
set_option maxRecDepth 20000 in
theorem gL_act_X10_hidden : GoodIn wsL_act (wsV RL 127 RX10 yX10_hidden wsX10_hidden) := goodIn_app (goodIn_of _ (by decide +kernel)) ggL_act_X10_hidden
set_option maxRecDepth 20000 in
theorem ggL_act_X10_keep : GoodIn wsL_act wsX10_keep := goodIn_r _ [459, 460, 461, 250, 462, 463, 464, 319, 465, 466, 467, 468, 469, 470, 321, 389, 475, 476, 477, 478, 479, 480, 481, 482, 483, 484, 485, 486, 487, 511, 512, 513] (by decide +kernel) (by decide +kernel)
set_option maxRecDepth 20000 in
theorem gL_act_X10_keep : GoodIn wsL_act (wsV RL 130 RX10 yX10_keep wsX10_keep) := goodIn_app (goodIn_of _ (by decide +kernel)) ggL_act_X10_keep
set_option maxRecDepth 20000 in
theorem ggL_act_X10_back : GoodIn wsL_act wsX10_back := goodIn_r _ [474, 460, 250, 461, 462, 463, 464, 319, 465, 466, 467, 468, 469, 470, 321, 389, 475, 476, 477, 478, 479, 480, 481, 482, 483, 484, 485, 486, 487, 511, 512, 513] (by decide +kernel) (by decide +kernel)
set_option maxRecDepth 20000 in
theorem gL_act_X10_back : GoodIn wsL_act (wsV RL 133 RX10 yX10_back wsX10_back) := goodIn_app (goodIn_of _ (by decide +kernel)) ggL_act_X10_back
theorem dL_act_0 : decode cL_act 0 = .ok (.iload_n 2, 1) := by decide +kernel
theorem dL_act_1 : decode cL_act 1 = .ok (.iload_n 3, 1) := by decide +kernel
theorem dL_act_2 : decode cL_act 2 = .ok (.invokestatic 25, 3) := by decide +kernel
theorem dL_act_5 : decode cL_act 5 = .ok (.istore 5, 2) := by decide +kernel
theorem dL_act_7 : decode cL_act 7 = .ok (.iload_n 2, 1) := by decide +kernel
theorem dL_act_8 : decode cL_act 8 = .ok (.iconst 3, 1) := by decide +kernel
theorem dL_act_9 : decode cL_act 9 = .ok (.ishr, 1) := by decide +kernel
theorem dL_act_10 : decode cL_act 10 = .ok (.iload 4, 2) := by decide +kernel
theorem dL_act_12 : decode cL_act 12 = .ok (.invokestatic 25, 3) := by decide +kernel
theorem dL_act_15 : decode cL_act 15 = .ok (.istore 6, 2) := by decide +kernel
theorem dL_act_17 : decode cL_act 17 = .ok (.iload_n 1, 1) := by decide +kernel
theorem dL_act_18 : decode cL_act 18 = .ok (.bipush 15, 2) := by decide +kernel
theorem dL_act_20 : decode cL_act 20 = .ok (.iand, 1) := by decide +kernel
theorem dL_act_21 : decode cL_act 21 = .ok (.tableswitch 506 0 14 #[75, 104, 114, 146, 167, 207, 233, 256, 272, 315, 315, 346, 392, 409, 431], 75) := by decide +kernel
theorem dL_act_96 : decode cL_act 96 = .ok (.aload_n 0, 1) := by decide +kernel
theorem dL_act_97 : decode cL_act 97 = .ok (.iload 5, 2) := by decide +kernel
theorem dL_act_99 : decode cL_act 99 = .ok (.iload 6, 2) := by decide +kernel
theorem dL_act_101 : decode cL_act 101 = .ok (.iload_n 1, 1) := by decide +kernel
theorem dL_act_102 : decode cL_act 102 = .ok (.iconst 4, 1) := by decide +kernel
theorem dL_act_103 : decode cL_act 103 = .ok (.ishr, 1) := by decide +kernel
theorem dL_act_104 : decode cL_act 104 = .ok (.iconst 1, 1) := by decide +kernel
theorem dL_act_105 : decode cL_act 105 = .ok (.iand, 1) := by decide +kernel
theorem dL_act_106 : decode cL_act 106 = .ok (.invokevirtual 62, 3) := by decide +kernel
theorem dL_act_109 : decode cL_act 109 = .ok (.i2l, 1) := by decide +kernel
theorem dL_act_110 : decode cL_act 110 = .ok (.ldc2_w 66, 3) := by decide +kernel
theorem dL_act_113 : decode cL_act 113 = .ok (.lmul, 1) := by decide +kernel
theorem dL_act_114 : decode cL_act 114 = .ok (.aload_n 0, 1) := by decide +kernel
theorem dL_act_115 : decode cL_act 115 = .ok (.iload 5, 2) := by decide +kernel
theorem dL_act_117 : decode cL_act 117 = .ok (.iload 6, 2) := by decide +kernel
theorem dL_act_119 : decode cL_act 119 = .ok (.invokevirtual 68, 3) := by decide +kernel
theorem dL_act_122 : decode cL_act 122 = .ok (.i2l, 1) := by decide +kernel
theorem dL_act_123 : decode cL_act 123 = .ok (.ladd, 1) := by decide +kernel
theorem dL_act_124 : decode cL_act 124 = .ok (.lreturn, 1) := by decide +kernel
theorem dL_act_125 : decode cL_act 125 = .ok (.aload_n 0, 1) := by decide +kernel
theorem dL_act_126 : decode cL_act 126 = .ok (.iload 5, 2) := by decide +kernel
theorem dL_act_128 : decode cL_act 128 = .ok (.iload 6, 2) := by decide +kernel
theorem dL_act_130 : decode cL_act 130 = .ok (.invokevirtual 70, 3) := by decide +kernel
theorem dL_act_133 : decode cL_act 133 = .ok (.i2l, 1) := by decide +kernel
theorem dL_act_134 : decode cL_act 134 = .ok (.lreturn, 1) := by decide +kernel
theorem dL_act_135 : decode cL_act 135 = .ok (.aload_n 0, 1) := by decide +kernel
theorem dL_act_136 : decode cL_act 136 = .ok (.iload_n 1, 1) := by decide +kernel
theorem dL_act_137 : decode cL_act 137 = .ok (.iconst 4, 1) := by decide +kernel
theorem dL_act_138 : decode cL_act 138 = .ok (.ishr, 1) := by decide +kernel
theorem dL_act_139 : decode cL_act 139 = .ok (.iconst 3, 1) := by decide +kernel
theorem dL_act_140 : decode cL_act 140 = .ok (.iand, 1) := by decide +kernel
theorem dL_act_141 : decode cL_act 141 = .ok (.iload 5, 2) := by decide +kernel
theorem dL_act_143 : decode cL_act 143 = .ok (.iload 6, 2) := by decide +kernel
theorem dL_act_145 : decode cL_act 145 = .ok (.invokevirtual 72, 3) := by decide +kernel
theorem dL_act_148 : decode cL_act 148 = .ok (.i2l, 1) := by decide +kernel
theorem dL_act_149 : decode cL_act 149 = .ok (.ldc2_w 74, 3) := by decide +kernel
theorem dL_act_152 : decode cL_act 152 = .ok (.lmul, 1) := by decide +kernel
theorem dL_act_153 : decode cL_act 153 = .ok (.aload_n 0, 1) := by decide +kernel
theorem dL_act_154 : decode cL_act 154 = .ok (.iload_n 1, 1) := by decide +kernel
theorem dL_act_155 : decode cL_act 155 = .ok (.iconst 4, 1) := by decide +kernel
theorem dL_act_156 : decode cL_act 156 = .ok (.ishr, 1) := by decide +kernel
theorem dL_act_157 : decode cL_act 157 = .ok (.iconst 3, 1) := by decide +kernel
theorem dL_act_158 : decode cL_act 158 = .ok (.iand, 1) := by decide +kernel
theorem dL_act_159 : decode cL_act 159 = .ok (.iload 5, 2) := by decide +kernel
theorem dL_act_161 : decode cL_act 161 = .ok (.invokevirtual 76, 3) := by decide +kernel
theorem dL_act_164 : decode cL_act 164 = .ok (.i2l, 1) := by decide +kernel
theorem dL_act_165 : decode cL_act 165 = .ok (.ladd, 1) := by decide +kernel
theorem dL_act_166 : decode cL_act 166 = .ok (.lreturn, 1) := by decide +kernel
theorem dL_act_167 : decode cL_act 167 = .ok (.aload_n 0, 1) := by decide +kernel
theorem dL_act_168 : decode cL_act 168 = .ok (.iload_n 1, 1) := by decide +kernel
theorem dL_act_169 : decode cL_act 169 = .ok (.iconst 4, 1) := by decide +kernel
theorem dL_act_170 : decode cL_act 170 = .ok (.ishr, 1) := by decide +kernel
theorem dL_act_171 : decode cL_act 171 = .ok (.iconst 3, 1) := by decide +kernel
theorem dL_act_172 : decode cL_act 172 = .ok (.invokestatic 25, 3) := by decide +kernel
theorem dL_act_175 : decode cL_act 175 = .ok (.iload 5, 2) := by decide +kernel
theorem dL_act_177 : decode cL_act 177 = .ok (.iload_n 1, 1) := by decide +kernel
theorem dL_act_178 : decode cL_act 178 = .ok (.bipush 6, 2) := by decide +kernel
theorem dL_act_180 : decode cL_act 180 = .ok (.ishr, 1) := by decide +kernel
theorem dL_act_181 : decode cL_act 181 = .ok (.iconst 1, 1) := by decide +kernel
theorem dL_act_182 : decode cL_act 182 = .ok (.iand, 1) := by decide +kernel
theorem dL_act_183 : decode cL_act 183 = .ok (.invokevirtual 79, 3) := by decide +kernel
theorem dL_act_186 : decode cL_act 186 = .ok (.i2l, 1) := by decide +kernel
theorem dL_act_187 : decode cL_act 187 = .ok (.lreturn, 1) := by decide +kernel
theorem dL_act_188 : decode cL_act 188 = .ok (.aload_n 0, 1) := by decide +kernel
theorem dL_act_189 : decode cL_act 189 = .ok (.iload_n 1, 1) := by decide +kernel
theorem dL_act_190 : decode cL_act 190 = .ok (.iconst 4, 1) := by decide +kernel
theorem dL_act_191 : decode cL_act 191 = .ok (.ishr, 1) := by decide +kernel
theorem dL_act_192 : decode cL_act 192 = .ok (.iconst 3, 1) := by decide +kernel
theorem dL_act_193 : decode cL_act 193 = .ok (.iand, 1) := by decide +kernel
theorem dL_act_194 : decode cL_act 194 = .ok (.iconst 0, 1) := by decide +kernel
theorem dL_act_195 : decode cL_act 195 = .ok (.iconst 1, 1) := by decide +kernel
theorem dL_act_196 : decode cL_act 196 = .ok (.iconst 2, 1) := by decide +kernel
theorem dL_act_197 : decode cL_act 197 = .ok (.iload_n 1, 1) := by decide +kernel
theorem dL_act_198 : decode cL_act 198 = .ok (.bipush 6, 2) := by decide +kernel
theorem dL_act_200 : decode cL_act 200 = .ok (.ishr, 1) := by decide +kernel
theorem dL_act_201 : decode cL_act 201 = .ok (.iconst 1, 1) := by decide +kernel
theorem dL_act_202 : decode cL_act 202 = .ok (.iand, 1) := by decide +kernel
theorem dL_act_203 : decode cL_act 203 = .ok (.invokevirtual 82, 3) := by decide +kernel
theorem dL_act_206 : decode cL_act 206 = .ok (.i2l, 1) := by decide +kernel
theorem dL_act_207 : decode cL_act 207 = .ok (.ldc2_w 86, 3) := by decide +kernel
theorem dL_act_210 : decode cL_act 210 = .ok (.lmul, 1) := by decide +kernel
theorem dL_act_211 : decode cL_act 211 = .ok (.aload_n 0, 1) := by decide +kernel
theorem dL_act_212 : decode cL_act 212 = .ok (.iload_n 1, 1) := by decide +kernel
theorem dL_act_213 : decode cL_act 213 = .ok (.iconst 4, 1) := by decide +kernel
theorem dL_act_214 : decode cL_act 214 = .ok (.ishr, 1) := by decide +kernel
theorem dL_act_215 : decode cL_act 215 = .ok (.iconst 3, 1) := by decide +kernel
theorem dL_act_216 : decode cL_act 216 = .ok (.iand, 1) := by decide +kernel
theorem dL_act_217 : decode cL_act 217 = .ok (.iload_n 2, 1) := by decide +kernel
theorem dL_act_218 : decode cL_act 218 = .ok (.iconst 3, 1) := by decide +kernel
theorem dL_act_219 : decode cL_act 219 = .ok (.invokestatic 25, 3) := by decide +kernel
theorem dL_act_222 : decode cL_act 222 = .ok (.invokevirtual 88, 3) := by decide +kernel
theorem dL_act_225 : decode cL_act 225 = .ok (.i2l, 1) := by decide +kernel
theorem dL_act_226 : decode cL_act 226 = .ok (.ladd, 1) := by decide +kernel
theorem dL_act_227 : decode cL_act 227 = .ok (.lreturn, 1) := by decide +kernel
theorem dL_act_228 : decode cL_act 228 = .ok (.aload_n 0, 1) := by decide +kernel
theorem dL_act_229 : decode cL_act 229 = .ok (.iload_n 1, 1) := by decide +kernel
theorem dL_act_230 : decode cL_act 230 = .ok (.iconst 4, 1) := by decide +kernel
theorem dL_act_231 : decode cL_act 231 = .ok (.ishr, 1) := by decide +kernel
theorem dL_act_232 : decode cL_act 232 = .ok (.iconst 3, 1) := by decide +kernel
theorem dL_act_233 : decode cL_act 233 = .ok (.iand, 1) := by decide +kernel
theorem dL_act_234 : decode cL_act 234 = .ok (.invokevirtual 91, 3) := by decide +kernel
theorem dL_act_237 : decode cL_act 237 = .ok (.i2l, 1) := by decide +kernel
theorem dL_act_238 : decode cL_act 238 = .ok (.ldc2_w 86, 3) := by decide +kernel
theorem dL_act_241 : decode cL_act 241 = .ok (.lmul, 1) := by decide +kernel
theorem dL_act_242 : decode cL_act 242 = .ok (.aload_n 0, 1) := by decide +kernel
theorem dL_act_243 : decode cL_act 243 = .ok (.iload_n 2, 1) := by decide +kernel
theorem dL_act_244 : decode cL_act 244 = .ok (.iconst 5, 1) := by decide +kernel
theorem dL_act_245 : decode cL_act 245 = .ok (.invokestatic 25, 3) := by decide +kernel
theorem dL_act_248 : decode cL_act 248 = .ok (.invokevirtual 95, 3) := by decide +kernel
theorem dL_act_251 : decode cL_act 251 = .ok (.i2l, 1) := by decide +kernel
theorem dL_act_252 : decode cL_act 252 = .ok (.ladd, 1) := by decide +kernel
theorem dL_act_253 : decode cL_act 253 = .ok (.lreturn, 1) := by decide +kernel
theorem dL_act_254 : decode cL_act 254 = .ok (.aload_n 0, 1) := by decide +kernel
theorem dL_act_255 : decode cL_act 255 = .ok (.iload_n 1, 1) := by decide +kernel
theorem dL_act_256 : decode cL_act 256 = .ok (.iconst 4, 1) := by decide +kernel
theorem dL_act_257 : decode cL_act 257 = .ok (.ishr, 1) := by decide +kernel
theorem dL_act_258 : decode cL_act 258 = .ok (.iconst 1, 1) := by decide +kernel
theorem dL_act_259 : decode cL_act 259 = .ok (.iand, 1) := by decide +kernel
theorem dL_act_260 : decode cL_act 260 = .ok (.iconst 0, 1) := by decide +kernel
theorem dL_act_261 : decode cL_act 261 = .ok (.iconst 1, 1) := by decide +kernel
theorem dL_act_262 : decode cL_act 262 = .ok (.iconst 2, 1) := by decide +kernel
theorem dL_act_263 : decode cL_act 263 = .ok (.iload_n 2, 1) := by decide +kernel
theorem dL_act_264 : decode cL_act 264 = .ok (.iconst 3, 1) := by decide +kernel
theorem dL_act_265 : decode cL_act 265 = .ok (.invokestatic 25, 3) := by decide +kernel
theorem dL_act_268 : decode cL_act 268 = .ok (.iload_n 1, 1) := by decide +kernel
theorem dL_act_269 : decode cL_act 269 = .ok (.iconst 5, 1) := by decide +kernel
theorem dL_act_270 : decode cL_act 270 = .ok (.ishr, 1) := by decide +kernel
theorem dL_act_271 : decode cL_act 271 = .ok (.iconst 1, 1) := by decide +kernel
theorem dL_act_272 : decode cL_act 272 = .ok (.iand, 1) := by decide +kernel
theorem dL_act_273 : decode cL_act 273 = .ok (.invokevirtual 98, 3) := by decide +kernel
theorem dL_act_276 : decode cL_act 276 = .ok (.lreturn, 1) := by decide +kernel
theorem dL_act_277 : decode cL_act 277 = .ok (.aload_n 0, 1) := by decide +kernel
theorem dL_act_278 : decode cL_act 278 = .ok (.iload 5, 2) := by decide +kernel
theorem dL_act_280 : decode cL_act 280 = .ok (.iload_n 1, 1) := by decide +kernel
theorem dL_act_281 : decode cL_act 281 = .ok (.iconst 4, 1) := by decide +kernel
theorem dL_act_282 : decode cL_act 282 = .ok (.ishr, 1) := by decide +kernel
theorem dL_act_283 : decode cL_act 283 = .ok (.bipush 10, 2) := by decide +kernel
theorem dL_act_285 : decode cL_act 285 = .ok (.invokestatic 25, 3) := by decide +kernel
theorem dL_act_288 : decode cL_act 288 = .ok (.invokevirtual 102, 3) := by decide +kernel
theorem dL_act_291 : decode cL_act 291 = .ok (.i2l, 1) := by decide +kernel
theorem dL_act_292 : decode cL_act 292 = .ok (.lreturn, 1) := by decide +kernel
theorem dL_act_293 : decode cL_act 293 = .ok (.aload_n 0, 1) := by decide +kernel
theorem dL_act_294 : decode cL_act 294 = .ok (.iload_n 2, 1) := by decide +kernel
theorem dL_act_295 : decode cL_act 295 = .ok (.iload 4, 2) := by decide +kernel
theorem dL_act_297 : decode cL_act 297 = .ok (.iconst 1, 1) := by decide +kernel
theorem dL_act_298 : decode cL_act 298 = .ok (.iadd, 1) := by decide +kernel
theorem dL_act_299 : decode cL_act 299 = .ok (.invokestatic 25, 3) := by decide +kernel
theorem dL_act_302 : decode cL_act 302 = .ok (.iconst 1, 1) := by decide +kernel
theorem dL_act_303 : decode cL_act 303 = .ok (.isub, 1) := by decide +kernel
theorem dL_act_304 : decode cL_act 304 = .ok (.iconst 1, 1) := by decide +kernel
theorem dL_act_305 : decode cL_act 305 = .ok (.iload_n 1, 1) := by decide +kernel
theorem dL_act_306 : decode cL_act 306 = .ok (.iconst 4, 1) := by decide +kernel
theorem dL_act_307 : decode cL_act 307 = .ok (.ishr, 1) := by decide +kernel
theorem dL_act_308 : decode cL_act 308 = .ok (.bipush 8, 2) := by decide +kernel
theorem dL_act_310 : decode cL_act 310 = .ok (.invokestatic 25, 3) := by decide +kernel
theorem dL_act_313 : decode cL_act 313 = .ok (.iadd, 1) := by decide +kernel
theorem dL_act_314 : decode cL_act 314 = .ok (.iload_n 1, 1) := by decide +kernel
theorem dL_act_315 : decode cL_act 315 = .ok (.bipush 7, 2) := by decide +kernel
theorem dL_act_317 : decode cL_act 317 = .ok (.ishr, 1) := by decide +kernel
theorem dL_act_318 : decode cL_act 318 = .ok (.bipush 10, 2) := by decide +kernel
theorem dL_act_320 : decode cL_act 320 = .ok (.invokestatic 25, 3) := by decide +kernel
theorem dL_act_323 : decode cL_act 323 = .ok (.iload_n 1, 1) := by decide +kernel
theorem dL_act_324 : decode cL_act 324 = .ok (.bipush 11, 2) := by decide +kernel
theorem dL_act_326 : decode cL_act 326 = .ok (.ishr, 1) := by decide +kernel
theorem dL_act_327 : decode cL_act 327 = .ok (.iconst 4, 1) := by decide +kernel
theorem dL_act_328 : decode cL_act 328 = .ok (.invokestatic 25, 3) := by decide +kernel
theorem dL_act_331 : decode cL_act 331 = .ok (.invokevirtual 105, 3) := by decide +kernel
theorem dL_act_334 : decode cL_act 334 = .ok (.i2l, 1) := by decide +kernel
theorem dL_act_335 : decode cL_act 335 = .ok (.lreturn, 1) := by decide +kernel
theorem dL_act_336 : decode cL_act 336 = .ok (.aload_n 0, 1) := by decide +kernel
theorem dL_act_337 : decode cL_act 337 = .ok (.iload_n 2, 1) := by decide +kernel
theorem dL_act_338 : decode cL_act 338 = .ok (.bipush 6, 2) := by decide +kernel
theorem dL_act_340 : decode cL_act 340 = .ok (.invokestatic 25, 3) := by decide +kernel
theorem dL_act_343 : decode cL_act 343 = .ok (.iload_n 2, 1) := by decide +kernel
theorem dL_act_344 : decode cL_act 344 = .ok (.iconst 3, 1) := by decide +kernel
theorem dL_act_345 : decode cL_act 345 = .ok (.ishr, 1) := by decide +kernel
theorem dL_act_346 : decode cL_act 346 = .ok (.bipush 24, 2) := by decide +kernel
theorem dL_act_348 : decode cL_act 348 = .ok (.invokestatic 25, 3) := by decide +kernel
theorem dL_act_351 : decode cL_act 351 = .ok (.iload_n 1, 1) := by decide +kernel
theorem dL_act_352 : decode cL_act 352 = .ok (.iconst 4, 1) := by decide +kernel
theorem dL_act_353 : decode cL_act 353 = .ok (.ishr, 1) := by decide +kernel
theorem dL_act_354 : decode cL_act 354 = .ok (.bipush 42, 2) := by decide +kernel
theorem dL_act_356 : decode cL_act 356 = .ok (.invokestatic 25, 3) := by decide +kernel
theorem dL_act_359 : decode cL_act 359 = .ok (.bipush 21, 2) := by decide +kernel
theorem dL_act_361 : decode cL_act 361 = .ok (.isub, 1) := by decide +kernel
theorem dL_act_362 : decode cL_act 362 = .ok (.invokevirtual 109, 3) := by decide +kernel
theorem dL_act_365 : decode cL_act 365 = .ok (.i2l, 1) := by decide +kernel
theorem dL_act_366 : decode cL_act 366 = .ok (.lreturn, 1) := by decide +kernel
theorem dL_act_367 : decode cL_act 367 = .ok (.aload_n 0, 1) := by decide +kernel
theorem dL_act_368 : decode cL_act 368 = .ok (.iload_n 2, 1) := by decide +kernel
theorem dL_act_369 : decode cL_act 369 = .ok (.bipush 6, 2) := by decide +kernel
theorem dL_act_371 : decode cL_act 371 = .ok (.invokestatic 25, 3) := by decide +kernel
theorem dL_act_374 : decode cL_act 374 = .ok (.iload_n 1, 1) := by decide +kernel
theorem dL_act_375 : decode cL_act 375 = .ok (.iconst 4, 1) := by decide +kernel
theorem dL_act_376 : decode cL_act 376 = .ok (.ishr, 1) := by decide +kernel
theorem dL_act_377 : decode cL_act 377 = .ok (.bipush 6, 2) := by decide +kernel
theorem dL_act_379 : decode cL_act 379 = .ok (.invokestatic 25, 3) := by decide +kernel
theorem dL_act_382 : decode cL_act 382 = .ok (.iload_n 1, 1) := by decide +kernel
theorem dL_act_383 : decode cL_act 383 = .ok (.bipush 7, 2) := by decide +kernel
theorem dL_act_385 : decode cL_act 385 = .ok (.ishr, 1) := by decide +kernel
theorem dL_act_386 : decode cL_act 386 = .ok (.iconst 3, 1) := by decide +kernel
theorem dL_act_387 : decode cL_act 387 = .ok (.invokestatic 25, 3) := by decide +kernel
theorem dL_act_390 : decode cL_act 390 = .ok (.invokevirtual 112, 3) := by decide +kernel
theorem dL_act_393 : decode cL_act 393 = .ok (.i2l, 1) := by decide +kernel
theorem dL_act_394 : decode cL_act 394 = .ok (.ldc2_w 86, 3) := by decide +kernel
theorem dL_act_397 : decode cL_act 397 = .ok (.lmul, 1) := by decide +kernel
theorem dL_act_398 : decode cL_act 398 = .ok (.aload_n 0, 1) := by decide +kernel
theorem dL_act_399 : decode cL_act 399 = .ok (.iload_n 2, 1) := by decide +kernel
theorem dL_act_400 : decode cL_act 400 = .ok (.iconst 3, 1) := by decide +kernel
theorem dL_act_401 : decode cL_act 401 = .ok (.ishr, 1) := by decide +kernel
theorem dL_act_402 : decode cL_act 402 = .ok (.bipush 6, 2) := by decide +kernel
theorem dL_act_404 : decode cL_act 404 = .ok (.invokestatic 25, 3) := by decide +kernel
theorem dL_act_407 : decode cL_act 407 = .ok (.invokevirtual 115, 3) := by decide +kernel
theorem dL_act_410 : decode cL_act 410 = .ok (.i2l, 1) := by decide +kernel
theorem dL_act_411 : decode cL_act 411 = .ok (.ladd, 1) := by decide +kernel
theorem dL_act_412 : decode cL_act 412 = .ok (.lreturn, 1) := by decide +kernel
theorem dL_act_413 : decode cL_act 413 = .ok (.aload_n 0, 1) := by decide +kernel
theorem dL_act_414 : decode cL_act 414 = .ok (.iload_n 2, 1) := by decide +kernel
theorem dL_act_415 : decode cL_act 415 = .ok (.bipush 6, 2) := by decide +kernel
theorem dL_act_417 : decode cL_act 417 = .ok (.invokestatic 25, 3) := by decide +kernel
theorem dL_act_420 : decode cL_act 420 = .ok (.iload_n 1, 1) := by decide +kernel
theorem dL_act_421 : decode cL_act 421 = .ok (.iconst 4, 1) := by decide +kernel
theorem dL_act_422 : decode cL_act 422 = .ok (.ishr, 1) := by decide +kernel
theorem dL_act_423 : decode cL_act 423 = .ok (.iconst 1, 1) := by decide +kernel
theorem dL_act_424 : decode cL_act 424 = .ok (.iand, 1) := by decide +kernel
theorem dL_act_425 : decode cL_act 425 = .ok (.invokevirtual 118, 3) := by decide +kernel
theorem dL_act_428 : decode cL_act 428 = .ok (.i2l, 1) := by decide +kernel
theorem dL_act_429 : decode cL_act 429 = .ok (.lreturn, 1) := by decide +kernel
theorem dL_act_430 : decode cL_act 430 = .ok (.aload_n 0, 1) := by decide +kernel
theorem dL_act_431 : decode cL_act 431 = .ok (.iload_n 1, 1) := by decide +kernel
theorem dL_act_432 : decode cL_act 432 = .ok (.iconst 4, 1) := by decide +kernel
theorem dL_act_433 : decode cL_act 433 = .ok (.ishr, 1) := by decide +kernel
theorem dL_act_434 : decode cL_act 434 = .ok (.iconst 1, 1) := by decide +kernel
theorem dL_act_435 : decode cL_act 435 = .ok (.iand, 1) := by decide +kernel
theorem dL_act_436 : decode cL_act 436 = .ok (.iload_n 1, 1) := by decide +kernel
theorem dL_act_437 : decode cL_act 437 = .ok (.iconst 5, 1) := by decide +kernel
theorem dL_act_438 : decode cL_act 438 = .ok (.ishr, 1) := by decide +kernel
theorem dL_act_439 : decode cL_act 439 = .ok (.iconst 1, 1) := by decide +kernel
theorem dL_act_440 : decode cL_act 440 = .ok (.iand, 1) := by decide +kernel
theorem dL_act_441 : decode cL_act 441 = .ok (.iload_n 2, 1) := by decide +kernel
theorem dL_act_442 : decode cL_act 442 = .ok (.bipush 11, 2) := by decide +kernel
theorem dL_act_444 : decode cL_act 444 = .ok (.invokestatic 25, 3) := by decide +kernel
theorem dL_act_447 : decode cL_act 447 = .ok (.invokevirtual 121, 3) := by decide +kernel
theorem dL_act_450 : decode cL_act 450 = .ok (.i2l, 1) := by decide +kernel
theorem dL_act_451 : decode cL_act 451 = .ok (.lreturn, 1) := by decide +kernel
theorem dL_act_452 : decode cL_act 452 = .ok (.iload_n 1, 1) := by decide +kernel
theorem dL_act_453 : decode cL_act 453 = .ok (.bipush 16, 2) := by decide +kernel
theorem dL_act_455 : decode cL_act 455 = .ok (.iand, 1) := by decide +kernel
theorem dL_act_456 : decode cL_act 456 = .ok (.ifCond .eq 38, 3) := by decide +kernel
theorem dL_act_459 : decode cL_act 459 = .ok (.aload_n 0, 1) := by decide +kernel
theorem dL_act_460 : decode cL_act 460 = .ok (.iconst 1, 1) := by decide +kernel
theorem dL_act_461 : decode cL_act 461 = .ok (.iload_n 2, 1) := by decide +kernel
theorem dL_act_462 : decode cL_act 462 = .ok (.bipush 12, 2) := by decide +kernel
theorem dL_act_464 : decode cL_act 464 = .ok (.invokestatic 25, 3) := by decide +kernel
theorem dL_act_467 : decode cL_act 467 = .ok (.iadd, 1) := by decide +kernel
theorem dL_act_468 : decode cL_act 468 = .ok (.iload_n 1, 1) := by decide +kernel
theorem dL_act_469 : decode cL_act 469 = .ok (.iconst 5, 1) := by decide +kernel
theorem dL_act_470 : decode cL_act 470 = .ok (.ishr, 1) := by decide +kernel
theorem dL_act_471 : decode cL_act 471 = .ok (.bipush 25, 2) := by decide +kernel
theorem dL_act_473 : decode cL_act 473 = .ok (.invokestatic 25, 3) := by decide +kernel
theorem dL_act_476 : decode cL_act 476 = .ok (.bipush 12, 2) := by decide +kernel
theorem dL_act_478 : decode cL_act 478 = .ok (.isub, 1) := by decide +kernel
theorem dL_act_479 : decode cL_act 479 = .ok (.iload_n 1, 1) := by decide +kernel
theorem dL_act_480 : decode cL_act 480 = .ok (.bipush 10, 2) := by decide +kernel
theorem dL_act_482 : decode cL_act 482 = .ok (.ishr, 1) := by decide +kernel
theorem dL_act_483 : decode cL_act 483 = .ok (.iconst 3, 1) := by decide +kernel
theorem dL_act_484 : decode cL_act 484 = .ok (.invokestatic 25, 3) := by decide +kernel
theorem dL_act_487 : decode cL_act 487 = .ok (.invokevirtual 124, 3) := by decide +kernel
theorem dL_act_490 : decode cL_act 490 = .ok (.i2l, 1) := by decide +kernel
theorem dL_act_491 : decode cL_act 491 = .ok (.goto 35, 3) := by decide +kernel
theorem dL_act_494 : decode cL_act 494 = .ok (.aload_n 0, 1) := by decide +kernel
theorem dL_act_495 : decode cL_act 495 = .ok (.iconst 1, 1) := by decide +kernel
theorem dL_act_496 : decode cL_act 496 = .ok (.iload_n 2, 1) := by decide +kernel
theorem dL_act_497 : decode cL_act 497 = .ok (.bipush 12, 2) := by decide +kernel
theorem dL_act_499 : decode cL_act 499 = .ok (.invokestatic 25, 3) := by decide +kernel
theorem dL_act_502 : decode cL_act 502 = .ok (.iadd, 1) := by decide +kernel
theorem dL_act_503 : decode cL_act 503 = .ok (.iload_n 1, 1) := by decide +kernel
theorem dL_act_504 : decode cL_act 504 = .ok (.iconst 5, 1) := by decide +kernel
theorem dL_act_505 : decode cL_act 505 = .ok (.ishr, 1) := by decide +kernel
theorem dL_act_506 : decode cL_act 506 = .ok (.bipush 25, 2) := by decide +kernel
theorem dL_act_508 : decode cL_act 508 = .ok (.invokestatic 25, 3) := by decide +kernel
theorem dL_act_511 : decode cL_act 511 = .ok (.bipush 12, 2) := by decide +kernel
theorem dL_act_513 : decode cL_act 513 = .ok (.isub, 1) := by decide +kernel
theorem dL_act_514 : decode cL_act 514 = .ok (.iload_n 1, 1) := by decide +kernel
theorem dL_act_515 : decode cL_act 515 = .ok (.bipush 10, 2) := by decide +kernel
theorem dL_act_517 : decode cL_act 517 = .ok (.ishr, 1) := by decide +kernel
theorem dL_act_518 : decode cL_act 518 = .ok (.iconst 3, 1) := by decide +kernel
theorem dL_act_519 : decode cL_act 519 = .ok (.invokestatic 25, 3) := by decide +kernel
theorem dL_act_522 : decode cL_act 522 = .ok (.invokevirtual 127, 3) := by decide +kernel
theorem dL_act_525 : decode cL_act 525 = .ok (.i2l, 1) := by decide +kernel
theorem dL_act_526 : decode cL_act 526 = .ok (.lreturn, 1) := by decide +kernel
theorem dL_act_527 : decode cL_act 527 = .ok (.iload_n 1, 1) := by decide +kernel
theorem dL_act_528 : decode cL_act 528 = .ok (.bipush 16, 2) := by decide +kernel
theorem dL_act_530 : decode cL_act 530 = .ok (.iand, 1) := by decide +kernel
theorem dL_act_531 : decode cL_act 531 = .ok (.ifCond .eq 11, 3) := by decide +kernel
theorem dL_act_534 : decode cL_act 534 = .ok (.aload_n 0, 1) := by decide +kernel
theorem dL_act_535 : decode cL_act 535 = .ok (.invokevirtual 130, 3) := by decide +kernel
theorem dL_act_538 : decode cL_act 538 = .ok (.i2l, 1) := by decide +kernel
theorem dL_act_539 : decode cL_act 539 = .ok (.goto 8, 3) := by decide +kernel
theorem dL_act_542 : decode cL_act 542 = .ok (.aload_n 0, 1) := by decide +kernel
theorem dL_act_543 : decode cL_act 543 = .ok (.invokevirtual 133, 3) := by decide +kernel
theorem dL_act_546 : decode cL_act 546 = .ok (.i2l, 1) := by decide +kernel
theorem dL_act_547 : decode cL_act 547 = .ok (.lreturn, 1) := by decide +kernel
set_option maxRecDepth 20000 in
theorem ggL_law_X10_init : GoodIn wsL_law wsX10_init := goodIn_r _ [8, 9, 10, 11, 12, 13, 14, 15, 16, 17, 18, 19, 20, 21, 22, 23, 24, 25, 26, 27, 28, 29, 30, 31, 32, 33, 34, 35, 36, 37, 38, 39, 40, 41, 42, 43, 44, 45, 46, 47, 48, 49, 50, 51, 52, 53, 54, 55, 56, 57, 58, 59, 60, 61, 62, 63, 64, 3, 65, 66, 67, 68, 69, 70, 71, 72, 73, 74, 75, 76, 77, 78, 79, 80, 81, 82, 83, 84, 85, 86, 87, 88, 89, 90, 91, 92, 93, 94, 95, 96, 97, 98, 99, 100, 101, 102, 103, 104, 105, 106, 107, 108, 109, 110, 111, 112, 113, 114, 115, 116, 117, 118, 119, 120, 121, 122, 123, 124, 125, 126, 127, 128, 129, 130, 131, 132, 133, 134, 135, 136, 137, 138, 139, 140, 141, 142, 143, 144, 145, 146, 147, 148, 149, 150, 151, 152, 153, 154, 155, 156, 157, 158, 159, 160, 161, 162, 163, 164, 165, 166, 167, 168, 169, 170, 171, 172, 173, 174, 175, 176, 177, 178, 179, 180, 181, 182, 183, 184, 185, 186, 187, 188, 189, 190, 191, 192, 193, 194, 195, 196, 782, 783, 769, 770, 771, 772, 773, 774, 775, 776, 777, 778, 779, 780, 781, 784, 785, 786, 787, 788, 789, 790, 791, 792, 793, 794, 795, 796, 797, 798, 799, 800, 801, 802, 803, 804, 805, 806, 807, 808, 809, 810, 811, 812, 813, 814, 815, 816, 817, 818, 819, 820, 821, 822, 823, 824, 825, 826, 827, 828] (by decide +kernel) (by decide +kernel)
set_option maxRecDepth 20000 in
theorem gL_law_X10_init : GoodIn wsL_law (wsX10_init) := ggL_law_X10_init
set_option maxRecDepth 20000 in
theorem ggtL_fight : GoodIn wsL_law ((wsL_fight_r1 ++ (wsL_fight_r2 ++ (wsL_fight_r3 ++ (wsL_fight_r4 ++ (wsL_fight_r5 ++ (wsL_fight_r6 ++ (wsL_fight_r7 ++ (wsL_fight_r8 ++ (wsL_fight_r9 ++ (wsL_fight_r10 ++ wsL_fight_r11)))))))))) ++ wsX100 ++ wsX80 ++ wsX60 ++ wsX30 ++ wsX50) := goodIn_r _ [201, 202, 199, 203, 204, 205, 206, 207, 208, 209, 210, 211, 2, 212, 15, 213, 214, 215, 14, 216, 60, 217, 218, 219, 220, 221, 222, 223, 224, 225, 226, 227, 228, 229, 230, 59, 231, 232, 233, 234, 235, 236, 237, 19, 23, 238, 239, 240, 18, 241, 66, 67, 65, 242, 156, 157, 22, 158, 159, 160, 161, 162, 163, 73, 74, 75, 164, 119, 120, 121, 243, 244, 245, 246, 247, 248, 249, 250, 251, 252, 253, 254, 255, 256, 257, 258, 259, 260, 261, 262, 263, 264, 265, 266, 267, 268, 269, 270, 271, 272, 273, 274, 275, 276, 277, 278, 279, 280, 281, 282, 283, 106, 284, 285, 109, 110, 286, 287, 288, 289, 290, 291, 292, 293, 294, 295, 296, 297, 298, 299, 300, 301, 302, 303, 304, 305, 306, 307, 308, 309, 310, 311, 312, 313, 314, 315, 316, 317, 318, 319, 320, 321, 322, 323, 324, 325, 326, 327, 328, 329, 330, 331, 332, 333, 334, 335, 336, 337, 338, 339, 340, 341, 342, 343, 344, 345, 346, 347, 348, 349, 350, 351, 71, 169, 170, 171, 172, 352, 353, 354, 355, 165, 166, 167, 168, 72, 356, 357, 358, 359, 24, 40, 54, 360, 174, 175, 176, 76, 77, 78, 177, 178, 179, 180, 181, 182, 183, 184, 185, 186, 187, 188, 189, 102, 103, 104, 105, 107, 108, 190, 191, 192, 193, 194, 195, 196, 361, 362, 363, 39, 364, 115, 118, 769, 770, 771, 772, 773, 774, 775, 776, 777, 778, 779, 780, 781, 782, 783, 784, 785, 786, 787, 788, 789, 790, 791, 792, 793, 794, 795, 796, 797, 798, 799, 810, 811, 812] (by decide +kernel) (by decide +kernel)
set_option maxRecDepth 20000 in
theorem ggL_law_L_fight : GoodIn wsL_law wsL_fight := fun w hw => (List.mem_cons.mp hw).elim (fun e => e ▸ ⟨(List.mem_append_left _ (List.mem_append_left _ (List.mem_append_left _ (List.mem_append_left _ (List.mem_append_left _ (List.mem_append_left _ (List.mem_append_left _ (List.mem_append_left _ (List.mem_append_left _ (List.mem_append_left _ (List.mem_append_left _ (List.mem_append_left _ (List.mem_append_right _ (List.mem_append_right _ (List.mem_append_right _ (List.mem_append_right _ (List.mem_append_right _ (List.mem_append_right _ (List.mem_append_right _ (List.mem_append_right _ (List.mem_append_left _ (List.mem_of_getElem? (i := 8) rfl)))))))))))))))))))))), good_of_word (by decide +kernel)⟩) (ggtL_fight w)
set_option maxRecDepth 20000 in
theorem gL_law_L_fight : GoodIn wsL_law (va_wsS RL 137 yL_fight wsL_fight) := goodIn_app (goodIn_of _ (by decide +kernel)) ggL_law_L_fight
set_option maxRecDepth 20000 in
theorem ggL_law_L_cell : GoodIn wsL_law wsL_cell := goodIn_r _ [203, 204] (by decide +kernel) (by decide +kernel)
set_option maxRecDepth 20000 in
theorem gL_law_L_cell : GoodIn wsL_law (va_wsS RL 21 yL_cell wsL_cell) := goodIn_app (goodIn_of _ (by decide +kernel)) ggL_law_L_cell
set_option maxRecDepth 20000 in
theorem ggL_law_X10_write : GoodIn wsL_law wsX10_write := goodIn_r _ [223, 15, 224, 225, 2, 226, 227, 228, 229, 14, 230, 60, 59, 769, 770, 771, 772, 773, 774, 775, 776, 777, 778, 779, 780, 781, 782, 783] (by decide +kernel) (by decide +kernel)
set_option maxRecDepth 20000 in
theorem gL_law_X10_write : GoodIn wsL_law (wsV RL 9 RX10 yX10_write wsX10_write) := goodIn_app (goodIn_of _ (by decide +kernel)) ggL_law_X10_write
set_option maxRecDepth 20000 in
theorem ggL_law_X10_blow : GoodIn wsL_law wsX10_blow := goodIn_r _ [368, 24, 224, 225, 2, 226, 369, 186, 187, 22, 188, 71, 769, 770, 771, 772, 773, 774, 775, 776, 777, 778, 779, 780, 781, 787, 788, 789, 790, 791, 792, 793, 794, 795, 796, 797, 798, 799] (by decide +kernel) (by decide +kernel)
set_option maxRecDepth 20000 in
theorem gL_law_X10_blow : GoodIn wsL_law (wsV RL 141 RX10 yX10_blow wsX10_blow) := goodIn_app (goodIn_of _ (by decide +kernel)) ggL_law_X10_blow
set_option maxRecDepth 20000 in
theorem ggL_law_X10_sum : GoodIn wsL_law wsX10_sum := goodIn_r _ [373, 24, 374, 375, 376, 2, 377, 378, 379, 380, 381, 224, 225, 226, 382, 383, 384, 385, 194, 195, 22, 196, 77, 190, 191, 192, 769, 770, 771, 772, 773, 774, 775, 776, 777, 778, 779, 780, 781, 787, 788, 789, 790, 791, 792, 793, 794, 795, 796, 797, 798, 799] (by decide +kernel) (by decide +kernel)
set_option maxRecDepth 20000 in
theorem gL_law_X10_sum : GoodIn wsL_law (wsV RL 62 RX10 yX10_sum wsX10_sum) := goodIn_app (goodIn_of _ (by decide +kernel)) ggL_law_X10_sum
set_option maxRecDepth 20000 in
theorem ggL_law_X10_lead : GoodIn wsL_law wsX10_lead := goodIn_r _ [389, 24, 390, 374, 375, 376, 2, 377, 378, 379, 380, 381, 224, 225, 226, 391, 392, 393, 22, 394, 78, 769, 770, 771, 772, 773, 774, 775, 776, 777, 778, 779, 780, 781, 787, 788, 789, 790, 791, 792, 793, 794, 795, 796, 797, 798, 799] (by decide +kernel) (by decide +kernel)
set_option maxRecDepth 20000 in
theorem gL_law_X10_lead : GoodIn wsL_law (wsV RL 70 RX10 yX10_lead wsX10_lead) := goodIn_app (goodIn_of _ (by decide +kernel)) ggL_law_X10_lead
set_option maxRecDepth 20000 in
theorem ggL_law_X10_close : GoodIn wsL_law wsX10_close := goodIn_r _ [398, 24, 374, 375, 376, 2, 377, 378, 379, 380, 381, 224, 225, 226, 399, 400, 401, 22, 402, 104, 105, 106, 107, 403, 392, 393, 394, 78, 177, 178, 179, 180, 72, 769, 770, 771, 772, 773, 774, 775, 776, 777, 778, 779, 780, 781, 787, 788, 789, 790, 791, 792, 793, 794, 795, 796, 797, 798, 799] (by decide +kernel) (by decide +kernel)
set_option maxRecDepth 20000 in
theorem gL_law_X10_close : GoodIn wsL_law (wsV RL 68 RX10 yX10_close wsX10_close) := goodIn_app (goodIn_of _ (by decide +kernel)) ggL_law_X10_close
set_option maxRecDepth 20000 in
theorem ggL_law_X10_margin : GoodIn wsL_law wsX10_margin := goodIn_r _ [407, 28, 390, 408, 409, 2, 410, 224, 225, 226, 374, 375, 376, 377, 24, 378, 379, 380, 381, 411, 412, 413, 27, 414, 84, 415, 392, 393, 22, 394, 78, 416, 417, 418, 419, 420, 109, 106, 110, 421, 283, 284, 422, 423, 424, 425, 74, 426, 400, 401, 402, 104, 105, 107, 403, 177, 178, 179, 180, 72, 427, 428, 429, 430, 769, 770, 771, 772, 773, 774, 775, 776, 777, 778, 779, 780, 781, 787, 788, 789, 790, 791, 792, 793, 794, 795, 796, 797, 798, 799, 800, 801] (by decide +kernel) (by decide +kernel)
set_option maxRecDepth 20000 in
theorem gL_law_X10_margin : GoodIn wsL_law (wsV RL 72 RX10 yX10_margin wsX10_margin) := goodIn_app (goodIn_of _ (by decide +kernel)) ggL_law_X10_margin
set_option maxRecDepth 20000 in
theorem ggL_law_X10_card : GoodIn wsL_law wsX10_card := goodIn_r _ [434, 28, 390, 408, 409, 2, 410, 224, 225, 226, 378, 379, 380, 381, 24, 435, 436, 437, 27, 438, 84, 439, 440, 441, 22, 442, 159, 75, 443, 412, 413, 414, 415, 392, 393, 394, 78, 416, 417, 418, 419, 420, 109, 106, 110, 421, 283, 284, 422, 423, 424, 425, 74, 426, 400, 401, 402, 104, 105, 107, 403, 177, 178, 179, 180, 72, 427, 428, 429, 430, 769, 770, 771, 772, 773, 774, 775, 776, 777, 778, 779, 780, 781, 787, 788, 789, 790, 791, 792, 793, 794, 795, 796, 797, 798, 799, 800, 801] (by decide +kernel) (by decide +kernel)
set_option maxRecDepth 20000 in
theorem gL_law_X10_card : GoodIn wsL_law (wsV RL 76 RX10 yX10_card wsX10_card) := goodIn_app (goodIn_of _ (by decide +kernel)) ggL_law_X10_card
set_option maxRecDepth 20000 in
theorem ggL_law_X10_points : GoodIn wsL_law wsX10_points := goodIn_r _ [447, 28, 224, 225, 2, 226, 378, 379, 380, 381, 24, 382, 383, 384, 448, 449, 450, 27, 451, 84, 452, 283, 106, 284, 439, 440, 441, 22, 442, 159, 75, 443, 412, 413, 414, 415, 392, 393, 394, 78, 416, 417, 418, 419, 420, 109, 110, 421, 422, 423, 424, 425, 74, 426, 400, 401, 402, 104, 105, 107, 403, 177, 178, 179, 180, 72, 427, 428, 429, 430, 769, 770, 771, 772, 773, 774, 775, 776, 777, 778, 779, 780, 781, 787, 788, 789, 790, 791, 792, 793, 794, 795, 796, 797, 798, 799, 800, 801] (by decide +kernel) (by decide +kernel)
set_option maxRecDepth 20000 in
theorem gL_law_X10_points : GoodIn wsL_law (wsV RL 79 RX10 yX10_points wsX10_points) := goodIn_app (goodIn_of _ (by decide +kernel)) ggL_law_X10_points
set_option maxRecDepth 20000 in
theorem ggL_law_X10_end : GoodIn wsL_law wsX10_end := goodIn_r _ [456, 28, 408, 409, 2, 410, 224, 225, 226, 457, 458, 459, 460, 378, 379, 380, 381, 24, 435, 436, 437, 27, 438, 84, 439, 440, 441, 22, 442, 159, 75, 443, 412, 413, 414, 415, 392, 393, 394, 78, 416, 417, 418, 419, 420, 109, 106, 110, 421, 283, 284, 422, 423, 424, 425, 74, 426, 400, 401, 402, 104, 105, 107, 403, 177, 178, 179, 180, 72, 427, 428, 429, 430, 461, 462, 463, 464, 465, 466, 467, 468, 469, 470, 769, 770, 771, 772, 773, 774, 775, 776, 777, 778, 779, 780, 781, 787, 788, 789, 790, 791, 792, 793, 794, 795, 796, 797, 798, 799, 800, 801] (by decide +kernel) (by decide +kernel)
set_option maxRecDepth 20000 in
theorem gL_law_X10_end : GoodIn wsL_law (wsV RL 82 RX10 yX10_end wsX10_end) := goodIn_app (goodIn_of _ (by decide +kernel)) ggL_law_X10_end
set_option maxRecDepth 20000 in
theorem ggL_law_X10_others : GoodIn wsL_law wsX10_others := goodIn_r _ [474, 28, 408, 409, 2, 410, 224, 225, 226, 475, 476, 477, 27, 478, 84, 83, 479, 436, 437, 438, 439, 440, 441, 22, 442, 159, 75, 443, 412, 413, 414, 415, 392, 393, 394, 78, 416, 417, 418, 419, 420, 109, 106, 110, 421, 283, 284, 422, 423, 424, 425, 74, 426, 400, 401, 402, 104, 105, 107, 403, 177, 178, 179, 180, 72, 427, 428, 429, 430, 480, 462, 463, 470, 465, 466, 769, 770, 771, 772, 773, 774, 775, 776, 777, 778, 779, 780, 781, 800, 801, 787, 788, 789, 790, 791, 792, 793, 794, 795, 796, 797, 798, 799] (by decide +kernel) (by decide +kernel)
set_option maxRecDepth 20000 in
theorem gL_law_X10_others : GoodIn wsL_law (wsV RL 88 RX10 yX10_others wsX10_others) := goodIn_app (goodIn_of _ (by decide +kernel)) ggL_law_X10_others
set_option maxRecDepth 20000 in
theorem ggL_law_X10_men : GoodIn wsL_law wsX10_men := goodIn_r _ [484, 28, 408, 409, 2, 410, 224, 225, 226, 485, 486, 487, 27, 488, 84, 489, 490, 491, 22, 492, 162, 493, 494, 495, 496, 159, 185, 186, 187, 188, 71, 480, 462, 463, 479, 436, 437, 438, 439, 440, 441, 442, 75, 443, 412, 413, 414, 415, 392, 393, 394, 78, 416, 417, 418, 419, 420, 109, 106, 110, 421, 283, 284, 422, 423, 424, 425, 74, 426, 400, 401, 402, 104, 105, 107, 403, 177, 178, 179, 180, 72, 427, 428, 429, 430, 769, 770, 771, 772, 773, 774, 775, 776, 777, 778, 779, 780, 781, 800, 801, 787, 788, 789, 790, 791, 792, 793, 794, 795, 796, 797, 798, 799] (by decide +kernel) (by decide +kernel)
set_option maxRecDepth 20000 in
theorem gL_law_X10_men : GoodIn wsL_law (wsV RL 91 RX10 yX10_men wsX10_men) := goodIn_app (goodIn_of _ (by decide +kernel)) ggL_law_X10_men
set_option maxRecDepth 20000 in
theorem ggL_law_X10_coins : GoodIn wsL_law wsX10_coins := goodIn_r _ [500, 501, 32, 224, 225, 2, 226, 457, 458, 459, 460, 378, 379, 380, 381, 24, 502, 503, 504, 31, 505, 90, 91, 506, 507, 120, 508, 509, 510, 511, 512, 92, 93, 513, 400, 401, 22, 402, 104, 105, 106, 107, 403, 392, 393, 394, 78, 177, 178, 179, 180, 72, 514, 436, 437, 27, 438, 84, 439, 440, 441, 442, 159, 75, 443, 412, 413, 414, 415, 416, 417, 418, 419, 420, 109, 110, 421, 283, 284, 422, 423, 424, 425, 74, 426, 427, 428, 429, 430, 515, 462, 463, 516, 517, 518, 519, 520, 521, 522, 523, 524, 525, 465, 466, 769, 770, 771, 772, 773, 774, 775, 776, 777, 778, 779, 780, 781, 802, 803, 804, 805, 787, 788, 789, 790, 791, 792, 793, 794, 795, 796, 797, 798, 799, 800, 801] (by decide +kernel) (by decide +kernel)
set_option maxRecDepth 20000 in
theorem gL_law_X10_coins : GoodIn wsL_law (wsV RL 98 RX10 yX10_coins wsX10_coins) := goodIn_app (goodIn_of _ (by decide +kernel)) ggL_law_X10_coins
set_option maxRecDepth 20000 in
theorem ggL_law_X10_seats : GoodIn wsL_law wsX10_seats := goodIn_r _ [529, 36, 224, 225, 2, 226, 530, 531, 532, 35, 533, 100, 534, 535, 536, 537, 98, 101, 538, 119, 120, 121, 539, 494, 495, 22, 496, 159, 185, 186, 187, 188, 71, 540, 541, 542, 543, 544, 99, 545, 546, 547, 548, 549, 550, 551, 769, 770, 771, 772, 773, 774, 775, 776, 777, 778, 779, 780, 781, 806, 807, 808, 809, 787, 788, 789, 790, 791, 792, 793, 794, 795, 796, 797, 798, 799] (by decide +kernel) (by decide +kernel)
set_option maxRecDepth 20000 in
theorem gL_law_X10_seats : GoodIn wsL_law (wsV RL 95 RX10 yX10_seats wsX10_seats) := goodIn_app (goodIn_of _ (by decide +kernel)) ggL_law_X10_seats
set_option maxRecDepth 20000 in
theorem ggL_law_X10_delay : GoodIn wsL_law wsX10_delay := goodIn_r _ [555, 40, 378, 379, 380, 2, 381, 24, 224, 225, 226, 769, 770, 771, 772, 773, 774, 775, 776, 777, 778, 779, 780, 781, 810, 811, 812, 787, 788, 789, 790, 791, 792, 793, 794, 795, 796, 797, 798, 799] (by decide +kernel) (by decide +kernel)
set_option maxRecDepth 20000 in
theorem gL_law_X10_delay : GoodIn wsL_law (wsV RL 102 RX10 yX10_delay wsX10_delay) := goodIn_app (goodIn_of _ (by decide +kernel)) ggL_law_X10_delay
set_option maxRecDepth 20000 in
theorem ggL_law_X10_buttons : GoodIn wsL_law wsX10_buttons := goodIn_r _ [559, 24, 44, 224, 225, 2, 226, 560, 561, 562, 43, 563, 127, 564, 283, 106, 284, 565, 566, 567, 568, 129, 128, 569, 570, 571, 572, 573, 186, 187, 22, 188, 71, 574, 575, 576, 577, 126, 578, 579, 580, 581, 582, 583, 584, 585, 76, 586, 587, 588, 589, 590, 591, 592, 593, 130, 594, 595, 596, 597, 598, 599, 600, 601, 602, 603, 604, 605, 769, 770, 771, 772, 773, 774, 775, 776, 777, 778, 779, 780, 781, 787, 788, 789, 790, 791, 792, 793, 794, 795, 796, 797, 798, 799, 813, 814, 815, 816, 817, 810, 811, 812] (by decide +kernel) (by decide +kernel)
set_option maxRecDepth 20000 in
theorem gL_law_X10_buttons : GoodIn wsL_law (wsV RL 105 RX10 yX10_buttons wsX10_buttons) := goodIn_app (goodIn_of _ (by decide +kernel)) ggL_law_X10_buttons
set_option maxRecDepth 20000 in
theorem ggL_law_X10_tell : GoodIn wsL_law wsX10_tell := goodIn_r _ [609, 40, 610, 611, 2, 612, 224, 225, 226, 613, 614, 615, 39, 616, 116, 617, 618, 619, 620, 769, 770, 771, 772, 773, 774, 775, 776, 777, 778, 779, 780, 781, 810, 811, 812] (by decide +kernel) (by decide +kernel)
set_option maxRecDepth 20000 in
theorem gL_law_X10_tell : GoodIn wsL_law (wsV RL 109 RX10 yX10_tell wsX10_tell) := goodIn_app (goodIn_of _ (by decide +kernel)) ggL_law_X10_tell
set_option maxRecDepth 20000 in
theorem ggL_law_X10_same : GoodIn wsL_law wsX10_same := goodIn_r _ [624, 48, 610, 611, 2, 612, 224, 225, 226, 625, 626, 627, 47, 628, 135, 136, 139, 629, 119, 120, 121, 630, 631, 632, 39, 633, 634, 614, 615, 616, 116, 635, 416, 417, 636, 637, 638, 639, 769, 770, 771, 772, 773, 774, 775, 776, 777, 778, 779, 780, 781, 818, 819, 820, 821, 822, 810, 811, 812] (by decide +kernel) (by decide +kernel)
set_option maxRecDepth 20000 in
theorem gL_law_X10_same : GoodIn wsL_law (wsV RL 112 RX10 yX10_same wsX10_same) := goodIn_app (goodIn_of _ (by decide +kernel)) ggL_law_X10_same
set_option maxRecDepth 20000 in
theorem ggL_law_X10_lean : GoodIn wsL_law wsX10_lean := goodIn_r _ [643, 48, 390, 610, 611, 2, 612, 224, 225, 226, 644, 645, 646, 47, 647, 139, 138, 648, 649, 650, 651, 630, 631, 632, 39, 633, 634, 614, 615, 616, 116, 635, 652, 653, 654, 655, 137, 656, 657, 658, 659, 769, 770, 771, 772, 773, 774, 775, 776, 777, 778, 779, 780, 781, 818, 819, 820, 821, 822, 810, 811, 812] (by decide +kernel) (by decide +kernel)
set_option maxRecDepth 20000 in
theorem gL_law_X10_lean : GoodIn wsL_law (wsV RL 118 RX10 yX10_lean wsX10_lean) := goodIn_app (goodIn_of _ (by decide +kernel)) ggL_law_X10_lean
set_option maxRecDepth 20000 in
theorem ggL_law_X10_unlike : GoodIn wsL_law wsX10_unlike := goodIn_r _ [663, 48, 610, 611, 2, 612, 224, 225, 226, 664, 665, 666, 47, 667, 139, 138, 137, 668, 105, 106, 107, 648, 649, 650, 651, 630, 631, 632, 39, 633, 634, 614, 615, 616, 116, 635, 652, 653, 654, 655, 769, 770, 771, 772, 773, 774, 775, 776, 777, 778, 779, 780, 781, 818, 819, 820, 821, 822, 810, 811, 812] (by decide +kernel) (by decide +kernel)
set_option maxRecDepth 20000 in
theorem gL_law_X10_unlike : GoodIn wsL_law (wsV RL 115 RX10 yX10_unlike wsX10_unlike) := goodIn_app (goodIn_of _ (by decide +kernel)) ggL_law_X10_unlike
set_option maxRecDepth 20000 in
theorem ggL_law_X10_added : GoodIn wsL_law wsX10_added := goodIn_r _ [672, 28, 224, 225, 2, 226, 382, 383, 384, 673, 674, 675, 448, 449, 450, 27, 451, 84, 452, 283, 106, 284, 439, 440, 441, 22, 442, 159, 75, 443, 412, 413, 414, 415, 392, 393, 394, 78, 416, 417, 418, 419, 420, 109, 110, 421, 422, 423, 424, 425, 74, 426, 400, 401, 402, 104, 105, 107, 403, 177, 178, 179, 180, 72, 427, 428, 429, 430, 769, 770, 771, 772, 773, 774, 775, 776, 777, 778, 779, 780, 781, 800, 801, 787, 788, 789, 790, 791, 792, 793, 794, 795, 796, 797, 798, 799] (by decide +kernel) (by decide +kernel)
set_option maxRecDepth 20000 in
theorem gL_law_X10_added : GoodIn wsL_law (wsV RL 147 RX10 yX10_added wsX10_added) := goodIn_app (goodIn_of _ (by decide +kernel)) ggL_law_X10_added
set_option maxRecDepth 20000 in
theorem ggL_law_X10_tenths : GoodIn wsL_law wsX10_tenths := goodIn_r _ [679, 40, 224, 225, 2, 226, 680, 681, 682, 39, 683, 117, 684, 685, 686, 687, 769, 770, 771, 772, 773, 774, 775, 776, 777, 778, 779, 780, 781, 810, 811, 812] (by decide +kernel) (by decide +kernel)
set_option maxRecDepth 20000 in
theorem gL_law_X10_tenths : GoodIn wsL_law (wsV RL 121 RX10 yX10_tenths wsX10_tenths) := goodIn_app (goodIn_of _ (by decide +kernel)) ggL_law_X10_tenths
set_option maxRecDepth 20000 in
theorem ggL_law_X10_open : GoodIn wsL_law wsX10_open := goodIn_r _ [691, 52, 692, 693, 2, 694, 224, 225, 226, 695, 696, 697, 51, 698, 144, 145, 146, 699, 700, 701, 702, 703, 704, 705, 706, 707, 708, 149, 148, 709, 681, 682, 39, 683, 117, 710, 711, 712, 713, 714, 715, 716, 717, 109, 106, 110, 718, 719, 720, 721, 147, 722, 723, 724, 725, 726, 727, 728, 729, 769, 770, 771, 772, 773, 774, 775, 776, 777, 778, 779, 780, 781, 823, 824, 825, 826, 827, 828, 810, 811, 812] (by decide +kernel) (by decide +kernel)
set_option maxRecDepth 20000 in
theorem gL_law_X10_open : GoodIn wsL_law (wsV RL 124 RX10 yX10_open wsX10_open) := goodIn_app (goodIn_of _ (by decide +kernel)) ggL_law_X10_open
set_option maxRecDepth 20000 in
theorem ggL_law_X10_hidden : GoodIn wsL_law wsX10_hidden := goodIn_r _ [733, 52, 692, 693, 2, 694, 224, 225, 226, 734, 735, 736, 51, 737, 149, 146, 148, 709, 681, 682, 39, 683, 117, 738, 739, 740, 741, 145, 144, 699, 700, 701, 702, 703, 704, 710, 711, 712, 722, 723, 724, 725, 713, 714, 715, 716, 717, 109, 106, 110, 718, 719, 720, 721, 147, 726, 727, 728, 729, 769, 770, 771, 772, 773, 774, 775, 776, 777, 778, 779, 780, 781, 823, 824, 825, 826, 827, 828, 810, 811, 812] (by decide +kernel) (by decide +kernel)
set_option maxRecDepth 20000 in
theorem gL_law_X10_hidden : GoodIn wsL_law (wsV RL 127 RX10 yX10_hidden wsX10_hidden) := goodIn_app (goodIn_of _ (by decide +kernel)) ggL_law_X10_hidden
set_option maxRecDepth 20000 in
theorem ggL_law_X10_count : GoodIn wsL_law wsX10_count := goodIn_r _ [745, 24, 15, 40, 54, 746, 747, 748, 39, 749, 116, 769, 770, 771, 772, 773, 774, 775, 776, 777, 778, 779, 780, 781, 787, 788, 789, 790, 791, 792, 793, 794, 795, 796, 797, 798, 799, 782, 783, 810, 811, 812] (by decide +kernel) (by decide +kernel)
set_option maxRecDepth 20000 in
theorem gL_law_X10_count : GoodIn wsL_law (wsV RL 150 RX10 yX10_count wsX10_count) := goodIn_app (goodIn_of _ (by decide +kernel)) ggL_law_X10_count
set_option maxRecDepth 20000 in
theorem ggtL_act : GoodIn wsL_law ((wsL_act_r1 ++ (wsL_act_r2 ++ (wsL_act_r3 ++ (wsL_act_r4 ++ (wsL_act_r5 ++ (wsL_act_r6 ++ (wsL_act_r7 ++ (wsL_act_r8 ++ (wsL_act_r9 ++ (wsL_act_r10 ++ (wsL_act_r11 ++ (wsL_act_r12 ++ (wsL_act_r13 ++ (wsL_act_r14 ++ (wsL_act_r15 ++ (wsL_act_r16 ++ (wsL_act_r17 ++ (wsL_act_r18 ++ (wsL_act_r19 ++ wsL_act_r20))))))))))))))))))) ++ wsX100 ++ wsX30 ++ wsX10 ++ wsX70 ++ wsX20 ++ wsX50 ++ wsX00 ++ wsX90 ++ wsX40) := goodIn_r _ [753, 754, 755, 205, 206, 199, 207, 208, 370, 371, 372, 2, 373, 24, 374, 375, 376, 377, 378, 379, 380, 381, 224, 225, 226, 382, 383, 384, 385, 194, 195, 22, 196, 77, 190, 191, 192, 395, 396, 397, 398, 399, 400, 401, 402, 104, 105, 106, 107, 403, 392, 393, 394, 78, 177, 178, 179, 180, 72, 386, 387, 388, 389, 390, 391, 404, 405, 406, 407, 28, 408, 409, 410, 411, 412, 413, 27, 414, 84, 415, 416, 417, 418, 419, 420, 109, 110, 421, 283, 284, 422, 423, 424, 425, 74, 426, 427, 428, 429, 430, 431, 432, 433, 434, 435, 436, 437, 438, 439, 440, 441, 442, 159, 75, 443, 444, 445, 446, 447, 448, 449, 450, 451, 452, 453, 454, 455, 456, 457, 458, 459, 460, 461, 462, 463, 464, 465, 466, 467, 468, 469, 470, 471, 472, 473, 474, 475, 476, 477, 478, 83, 479, 480, 481, 482, 483, 484, 485, 486, 487, 488, 489, 490, 491, 492, 162, 493, 494, 495, 496, 185, 186, 187, 188, 71, 526, 527, 528, 529, 36, 530, 531, 532, 35, 533, 100, 534, 535, 536, 537, 98, 101, 538, 119, 120, 121, 539, 540, 541, 542, 543, 544, 99, 545, 546, 547, 548, 549, 550, 551, 497, 498, 499, 500, 501, 32, 502, 503, 504, 31, 505, 90, 91, 506, 507, 508, 509, 510, 511, 512, 92, 93, 513, 514, 515, 516, 517, 518, 519, 520, 521, 522, 523, 524, 525, 552, 553, 554, 555, 40, 556, 557, 558, 559, 44, 560, 561, 562, 43, 563, 127, 564, 565, 566, 567, 568, 129, 128, 569, 570, 571, 572, 573, 574, 575, 576, 577, 126, 578, 579, 580, 581, 582, 583, 584, 585, 76, 586, 587, 588, 589, 590, 591, 592, 593, 130, 594, 595, 596, 597, 598, 599, 600, 601, 602, 603, 604, 605, 606, 607, 608, 609, 610, 611, 612, 613, 614, 615, 39, 616, 116, 617, 618, 619, 620, 621, 622, 623, 624, 48, 625, 626, 627, 47, 628, 135, 136, 139, 629, 630, 631, 632, 633, 634, 635, 636, 637, 638, 639, 660, 661, 662, 663, 664, 665, 666, 667, 138, 137, 668, 648, 649, 650, 651, 652, 653, 654, 655, 640, 641, 642, 643, 644, 645, 646, 647, 656, 657, 658, 659, 676, 677, 678, 679, 680, 681, 682, 683, 117, 684, 685, 686, 687, 688, 689, 690, 691, 52, 692, 693, 694, 695, 696, 697, 51, 698, 144, 145, 146, 699, 700, 701, 702, 703, 704, 705, 706, 707, 708, 149, 148, 709, 710, 711, 712, 713, 714, 715, 716, 717, 718, 719, 720, 721, 147, 722, 723, 724, 725, 726, 727, 728, 729, 730, 731, 732, 733, 734, 735, 736, 737, 738, 739, 740, 741, 756, 757, 758, 759, 54, 53, 760, 761, 762, 763, 115, 764, 170, 171, 172, 765, 766, 767, 768, 769, 770, 771, 772, 773, 774, 775, 776, 777, 778, 779, 780, 781, 787, 788, 789, 790, 791, 792, 793, 794, 795, 796, 797, 798, 799, 800, 801, 806, 807, 808, 809, 802, 803, 804, 805, 810, 811, 812, 813, 814, 815, 816, 817, 818, 819, 820, 821, 822, 823, 824, 825, 826, 827, 828] (by decide +kernel) (by decide +kernel)
set_option maxRecDepth 20000 in
theorem ggL_law_L_act : GoodIn wsL_law wsL_act := fun w hw => (List.mem_cons.mp hw).elim (fun e => e ▸ ⟨(List.mem_append_left _ (List.mem_append_left _ (List.mem_append_left _ (List.mem_append_left _ (List.mem_append_left _ (List.mem_append_left _ (List.mem_append_left _ (List.mem_append_left _ (List.mem_append_left _ (List.mem_append_left _ (List.mem_append_left _ (List.mem_append_left _ (List.mem_append_right _ (List.mem_append_right _ (List.mem_append_right _ (List.mem_append_right _ (List.mem_append_right _ (List.mem_append_right _ (List.mem_append_right _ (List.mem_append_right _ (List.mem_append_right _ (List.mem_append_right _ (List.mem_append_right _ (List.mem_append_right _ (List.mem_append_right _ (List.mem_append_right _ (List.mem_append_right _ (List.mem_append_right _ (List.mem_append_right _ (List.mem_append_right _ (List.mem_append_right _ (List.mem_append_right _ (List.mem_append_right _ (List.mem_append_right _ (List.mem_append_right _ (List.mem_append_right _ (List.mem_append_right _ (List.mem_append_right _ (List.mem_append_right _ (List.mem_append_right _ (List.mem_append_right _ (List.mem_append_right _ (List.mem_append_right _ (List.mem_append_left _ (List.mem_of_getElem? (i := 8) rfl))))))))))))))))))))))))))))))))))))))))))))), good_of_word (by decide +kernel)⟩) (ggtL_act w)
set_option maxRecDepth 20000 in
theorem gL_law_L_act : GoodIn wsL_law (va_wsS RL 153 yL_act wsL_act) := goodIn_app (goodIn_of _ (by decide +kernel)) ggL_law_L_act
theorem dL_law_0 : decode cL_law 0 = .ok (.new 10, 3) := by decide +kernel
theorem dL_law_3 : decode cL_law 3 = .ok (.dup, 1) := by decide +kernel
theorem dL_law_4 : decode cL_law 4 = .ok (.invokespecial 136, 3) := by decide +kernel
theorem dL_law_7 : decode cL_law 7 = .ok (.astore_n 1, 1) := by decide +kernel
theorem dL_law_8 : decode cL_law 8 = .ok (.new 10, 3) := by decide +kernel
theorem dL_law_11 : decode cL_law 11 = .ok (.dup, 1) := by decide +kernel
theorem dL_law_12 : decode cL_law 12 = .ok (.invokespecial 136, 3) := by decide +kernel
theorem dL_law_15 : decode cL_law 15 = .ok (.astore_n 2, 1) := by decide +kernel
theorem dL_law_16 : decode cL_law 16 = .ok (.bipush 40, 2) := by decide +kernel
theorem dL_law_18 : decode cL_law 18 = .ok (.newarray .int, 2) := by decide +kernel
theorem dL_law_20 : decode cL_law 20 = .ok (.astore_n 3, 1) := by decide +kernel
theorem dL_law_21 : decode cL_law 21 = .ok (.bipush 60, 2) := by decide +kernel
theorem dL_law_23 : decode cL_law 23 = .ok (.newarray .int, 2) := by decide +kernel
theorem dL_law_25 : decode cL_law 25 = .ok (.astore 4, 2) := by decide +kernel
theorem dL_law_27 : decode cL_law 27 = .ok (.bipush 42, 2) := by decide +kernel
theorem dL_law_29 : decode cL_law 29 = .ok (.newarray .int, 2) := by decide +kernel
theorem dL_law_31 : decode cL_law 31 = .ok (.astore 5, 2) := by decide +kernel
theorem dL_law_33 : decode cL_law 33 = .ok (.aload_n 1, 1) := by decide +kernel
theorem dL_law_34 : decode cL_law 34 = .ok (.aload_n 0, 1) := by decide +kernel
theorem dL_law_35 : decode cL_law 35 = .ok (.iconst 0, 1) := by decide +kernel
theorem dL_law_36 : decode cL_law 36 = .ok (.aload_n 3, 1) := by decide +kernel
theorem dL_law_37 : decode cL_law 37 = .ok (.aload 4, 2) := by decide +kernel
theorem dL_law_39 : decode cL_law 39 = .ok (.aload 5, 2) := by decide +kernel
theorem dL_law_41 : decode cL_law 41 = .ok (.invokestatic 137, 3) := by decide +kernel
theorem dL_law_44 : decode cL_law 44 = .ok (.ifCond .ne 5, 3) := by decide +kernel
theorem dL_law_47 : decode cL_law 47 = .ok (.iconst 0, 1) := by decide +kernel
theorem dL_law_48 : decode cL_law 48 = .ok (.ireturn, 1) := by decide +kernel
theorem dL_law_49 : decode cL_law 49 = .ok (.iconst 0, 1) := by decide +kernel
theorem dL_law_50 : decode cL_law 50 = .ok (.istore 6, 2) := by decide +kernel
theorem dL_law_52 : decode cL_law 52 = .ok (.iload 6, 2) := by decide +kernel
theorem dL_law_54 : decode cL_law 54 = .ok (.bipush 40, 2) := by decide +kernel
theorem dL_law_56 : decode cL_law 56 = .ok (.if_icmp .ge 14, 3) := by decide +kernel
theorem dL_law_59 : decode cL_law 59 = .ok (.aload_n 3, 1) := by decide +kernel
theorem dL_law_60 : decode cL_law 60 = .ok (.iload 6, 2) := by decide +kernel
theorem dL_law_62 : decode cL_law 62 = .ok (.iconst 0, 1) := by decide +kernel
theorem dL_law_63 : decode cL_law 63 = .ok (.iastore, 1) := by decide +kernel
theorem dL_law_64 : decode cL_law 64 = .ok (.iinc 6 1, 3) := by decide +kernel
theorem dL_law_67 : decode cL_law 67 = .ok (.goto (-15), 3) := by decide +kernel
theorem dL_law_70 : decode cL_law 70 = .ok (.aload_n 2, 1) := by decide +kernel
theorem dL_law_71 : decode cL_law 71 = .ok (.aload_n 0, 1) := by decide +kernel
theorem dL_law_72 : decode cL_law 72 = .ok (.iconst 0, 1) := by decide +kernel
theorem dL_law_73 : decode cL_law 73 = .ok (.aload_n 3, 1) := by decide +kernel
theorem dL_law_74 : decode cL_law 74 = .ok (.aload 4, 2) := by decide +kernel
theorem dL_law_76 : decode cL_law 76 = .ok (.aload 5, 2) := by decide +kernel
theorem dL_law_78 : decode cL_law 78 = .ok (.invokestatic 137, 3) := by decide +kernel
theorem dL_law_81 : decode cL_law 81 = .ok (.ifCond .ne 5, 3) := by decide +kernel
theorem dL_law_84 : decode cL_law 84 = .ok (.iconst 0, 1) := by decide +kernel
theorem dL_law_85 : decode cL_law 85 = .ok (.ireturn, 1) := by decide +kernel
theorem dL_law_86 : decode cL_law 86 = .ok (.iconst 0, 1) := by decide +kernel
theorem dL_law_87 : decode cL_law 87 = .ok (.istore 6, 2) := by decide +kernel
theorem dL_law_89 : decode cL_law 89 = .ok (.iload 6, 2) := by decide +kernel
theorem dL_law_91 : decode cL_law 91 = .ok (.bipush 40, 2) := by decide +kernel
theorem dL_law_93 : decode cL_law 93 = .ok (.if_icmp .ge 583, 3) := by decide +kernel
theorem dL_law_96 : decode cL_law 96 = .ok (.aload_n 0, 1) := by decide +kernel
theorem dL_law_97 : decode cL_law 97 = .ok (.bipush 25, 2) := by decide +kernel
theorem dL_law_99 : decode cL_law 99 = .ok (.iconst 2, 1) := by decide +kernel
theorem dL_law_100 : decode cL_law 100 = .ok (.iload 6, 2) := by decide +kernel
theorem dL_law_102 : decode cL_law 102 = .ok (.imul, 1) := by decide +kernel
theorem dL_law_103 : decode cL_law 103 = .ok (.iadd, 1) := by decide +kernel
theorem dL_law_104 : decode cL_law 104 = .ok (.invokestatic 21, 3) := by decide +kernel
theorem dL_law_107 : decode cL_law 107 = .ok (.istore 7, 2) := by decide +kernel
theorem dL_law_109 : decode cL_law 109 = .ok (.aload_n 0, 1) := by decide +kernel
theorem dL_law_110 : decode cL_law 110 = .ok (.bipush 26, 2) := by decide +kernel
theorem dL_law_112 : decode cL_law 112 = .ok (.iconst 2, 1) := by decide +kernel
theorem dL_law_113 : decode cL_law 113 = .ok (.iload 6, 2) := by decide +kernel
theorem dL_law_115 : decode cL_law 115 = .ok (.imul, 1) := by decide +kernel
theorem dL_law_116 : decode cL_law 116 = .ok (.iadd, 1) := by decide +kernel
theorem dL_law_117 : decode cL_law 117 = .ok (.invokestatic 21, 3) := by decide +kernel
theorem dL_law_120 : decode cL_law 120 = .ok (.istore 8, 2) := by decide +kernel
theorem dL_law_122 : decode cL_law 122 = .ok (.aload_n 2, 1) := by decide +kernel
theorem dL_law_123 : decode cL_law 123 = .ok (.bipush 9, 2) := by decide +kernel
theorem dL_law_125 : decode cL_law 125 = .ok (.lconst 0, 1) := by decide +kernel
theorem dL_law_126 : decode cL_law 126 = .ok (.invokevirtual 9, 3) := by decide +kernel
theorem dL_law_129 : decode cL_law 129 = .ok (.iconst (-1), 1) := by decide +kernel
theorem dL_law_130 : decode cL_law 130 = .ok (.if_icmp .ne 270, 3) := by decide +kernel
theorem dL_law_133 : decode cL_law 133 = .ok (.aload_n 2, 1) := by decide +kernel
theorem dL_law_134 : decode cL_law 134 = .ok (.iconst (-1), 1) := by decide +kernel
theorem dL_law_135 : decode cL_law 135 = .ok (.iconst 0, 1) := by decide +kernel
theorem dL_law_136 : decode cL_law 136 = .ok (.invokevirtual 141, 3) := by decide +kernel
theorem dL_law_139 : decode cL_law 139 = .ok (.iconst (-1), 1) := by decide +kernel
theorem dL_law_140 : decode cL_law 140 = .ok (.if_icmp .ne 260, 3) := by decide +kernel
theorem dL_law_143 : decode cL_law 143 = .ok (.aload_n 2, 1) := by decide +kernel
theorem dL_law_144 : decode cL_law 144 = .ok (.bipush 8, 2) := by decide +kernel
theorem dL_law_146 : decode cL_law 146 = .ok (.iconst 0, 1) := by decide +kernel
theorem dL_law_147 : decode cL_law 147 = .ok (.iconst 0, 1) := by decide +kernel
theorem dL_law_148 : decode cL_law 148 = .ok (.invokevirtual 62, 3) := by decide +kernel
theorem dL_law_151 : decode cL_law 151 = .ok (.iconst (-1), 1) := by decide +kernel
theorem dL_law_152 : decode cL_law 152 = .ok (.if_icmp .ne 248, 3) := by decide +kernel
theorem dL_law_155 : decode cL_law 155 = .ok (.aload_n 2, 1) := by decide +kernel
theorem dL_law_156 : decode cL_law 156 = .ok (.iconst 0, 1) := by decide +kernel
theorem dL_law_157 : decode cL_law 157 = .ok (.bipush 12, 2) := by decide +kernel
theorem dL_law_159 : decode cL_law 159 = .ok (.invokevirtual 70, 3) := by decide +kernel
theorem dL_law_162 : decode cL_law 162 = .ok (.ldc 144, 2) := by decide +kernel
theorem dL_law_164 : decode cL_law 164 = .ok (.if_icmp .ne 236, 3) := by decide +kernel
theorem dL_law_167 : decode cL_law 167 = .ok (.aload_n 2, 1) := by decide +kernel
theorem dL_law_168 : decode cL_law 168 = .ok (.iconst 0, 1) := by decide +kernel
theorem dL_law_169 : decode cL_law 169 = .ok (.iconst (-1), 1) := by decide +kernel
theorem dL_law_170 : decode cL_law 170 = .ok (.invokevirtual 68, 3) := by decide +kernel
theorem dL_law_173 : decode cL_law 173 = .ok (.iconst (-1), 1) := by decide +kernel
theorem dL_law_174 : decode cL_law 174 = .ok (.if_icmp .ne 226, 3) := by decide +kernel
theorem dL_law_177 : decode cL_law 177 = .ok (.aload_n 2, 1) := by decide +kernel
theorem dL_law_178 : decode cL_law 178 = .ok (.iconst 4, 1) := by decide +kernel
theorem dL_law_179 : decode cL_law 179 = .ok (.iconst 0, 1) := by decide +kernel
theorem dL_law_180 : decode cL_law 180 = .ok (.iconst 0, 1) := by decide +kernel
theorem dL_law_181 : decode cL_law 181 = .ok (.invokevirtual 72, 3) := by decide +kernel
theorem dL_law_184 : decode cL_law 184 = .ok (.ldc 144, 2) := by decide +kernel
theorem dL_law_186 : decode cL_law 186 = .ok (.if_icmp .ne 214, 3) := by decide +kernel
theorem dL_law_189 : decode cL_law 189 = .ok (.aload_n 2, 1) := by decide +kernel
theorem dL_law_190 : decode cL_law 190 = .ok (.iconst 0, 1) := by decide +kernel
theorem dL_law_191 : decode cL_law 191 = .ok (.bipush 8, 2) := by decide +kernel
theorem dL_law_193 : decode cL_law 193 = .ok (.invokevirtual 76, 3) := by decide +kernel
theorem dL_law_196 : decode cL_law 196 = .ok (.ldc 144, 2) := by decide +kernel
theorem dL_law_198 : decode cL_law 198 = .ok (.if_icmp .ne 202, 3) := by decide +kernel
theorem dL_law_201 : decode cL_law 201 = .ok (.aload_n 2, 1) := by decide +kernel
theorem dL_law_202 : decode cL_law 202 = .ok (.iconst 3, 1) := by decide +kernel
theorem dL_law_203 : decode cL_law 203 = .ok (.iconst 0, 1) := by decide +kernel
theorem dL_law_204 : decode cL_law 204 = .ok (.iconst 0, 1) := by decide +kernel
theorem dL_law_205 : decode cL_law 205 = .ok (.invokevirtual 79, 3) := by decide +kernel
theorem dL_law_208 : decode cL_law 208 = .ok (.iconst (-1), 1) := by decide +kernel
theorem dL_law_209 : decode cL_law 209 = .ok (.if_icmp .ne 191, 3) := by decide +kernel
theorem dL_law_212 : decode cL_law 212 = .ok (.aload_n 2, 1) := by decide +kernel
theorem dL_law_213 : decode cL_law 213 = .ok (.iconst 0, 1) := by decide +kernel
theorem dL_law_214 : decode cL_law 214 = .ok (.iconst 0, 1) := by decide +kernel
theorem dL_law_215 : decode cL_law 215 = .ok (.iconst 0, 1) := by decide +kernel
theorem dL_law_216 : decode cL_law 216 = .ok (.iconst 1, 1) := by decide +kernel
theorem dL_law_217 : decode cL_law 217 = .ok (.iconst 0, 1) := by decide +kernel
theorem dL_law_218 : decode cL_law 218 = .ok (.invokevirtual 82, 3) := by decide +kernel
theorem dL_law_221 : decode cL_law 221 = .ok (.iconst (-1), 1) := by decide +kernel
theorem dL_law_222 : decode cL_law 222 = .ok (.if_icmp .ne 178, 3) := by decide +kernel
theorem dL_law_225 : decode cL_law 225 = .ok (.aload_n 2, 1) := by decide +kernel
theorem dL_law_226 : decode cL_law 226 = .ok (.iconst 0, 1) := by decide +kernel
theorem dL_law_227 : decode cL_law 227 = .ok (.iconst 3, 1) := by decide +kernel
theorem dL_law_228 : decode cL_law 228 = .ok (.invokevirtual 88, 3) := by decide +kernel
theorem dL_law_231 : decode cL_law 231 = .ok (.iconst (-1), 1) := by decide +kernel
theorem dL_law_232 : decode cL_law 232 = .ok (.if_icmp .ne 168, 3) := by decide +kernel
theorem dL_law_235 : decode cL_law 235 = .ok (.aload_n 2, 1) := by decide +kernel
theorem dL_law_236 : decode cL_law 236 = .ok (.iconst 4, 1) := by decide +kernel
theorem dL_law_237 : decode cL_law 237 = .ok (.invokevirtual 91, 3) := by decide +kernel
theorem dL_law_240 : decode cL_law 240 = .ok (.iconst (-1), 1) := by decide +kernel
theorem dL_law_241 : decode cL_law 241 = .ok (.if_icmp .ne 159, 3) := by decide +kernel
theorem dL_law_244 : decode cL_law 244 = .ok (.aload_n 2, 1) := by decide +kernel
theorem dL_law_245 : decode cL_law 245 = .ok (.iconst 2, 1) := by decide +kernel
theorem dL_law_246 : decode cL_law 246 = .ok (.iconst 0, 1) := by decide +kernel
theorem dL_law_247 : decode cL_law 247 = .ok (.iconst 1, 1) := by decide +kernel
theorem dL_law_248 : decode cL_law 248 = .ok (.iconst 2, 1) := by decide +kernel
theorem dL_law_249 : decode cL_law 249 = .ok (.iconst 0, 1) := by decide +kernel
theorem dL_law_250 : decode cL_law 250 = .ok (.iconst 0, 1) := by decide +kernel
theorem dL_law_251 : decode cL_law 251 = .ok (.invokevirtual 98, 3) := by decide +kernel
theorem dL_law_254 : decode cL_law 254 = .ok (.ldc2_w 145, 3) := by decide +kernel
theorem dL_law_257 : decode cL_law 257 = .ok (.lcmp, 1) := by decide +kernel
theorem dL_law_258 : decode cL_law 258 = .ok (.ifCond .ne 142, 3) := by decide +kernel
theorem dL_law_261 : decode cL_law 261 = .ok (.aload_n 2, 1) := by decide +kernel
theorem dL_law_262 : decode cL_law 262 = .ok (.iconst 5, 1) := by decide +kernel
theorem dL_law_263 : decode cL_law 263 = .ok (.invokevirtual 95, 3) := by decide +kernel
theorem dL_law_266 : decode cL_law 266 = .ok (.iconst (-1), 1) := by decide +kernel
theorem dL_law_267 : decode cL_law 267 = .ok (.if_icmp .ne 133, 3) := by decide +kernel
theorem dL_law_270 : decode cL_law 270 = .ok (.aload_n 2, 1) := by decide +kernel
theorem dL_law_271 : decode cL_law 271 = .ok (.bipush 8, 2) := by decide +kernel
theorem dL_law_273 : decode cL_law 273 = .ok (.iconst 0, 1) := by decide +kernel
theorem dL_law_274 : decode cL_law 274 = .ok (.invokevirtual 102, 3) := by decide +kernel
theorem dL_law_277 : decode cL_law 277 = .ok (.iconst (-1), 1) := by decide +kernel
theorem dL_law_278 : decode cL_law 278 = .ok (.if_icmp .ne 122, 3) := by decide +kernel
theorem dL_law_281 : decode cL_law 281 = .ok (.aload_n 2, 1) := by decide +kernel
theorem dL_law_282 : decode cL_law 282 = .ok (.iconst 0, 1) := by decide +kernel
theorem dL_law_283 : decode cL_law 283 = .ok (.iconst 0, 1) := by decide +kernel
theorem dL_law_284 : decode cL_law 284 = .ok (.iconst 0, 1) := by decide +kernel
theorem dL_law_285 : decode cL_law 285 = .ok (.iconst 0, 1) := by decide +kernel
theorem dL_law_286 : decode cL_law 286 = .ok (.invokevirtual 105, 3) := by decide +kernel
theorem dL_law_289 : decode cL_law 289 = .ok (.iconst (-1), 1) := by decide +kernel
theorem dL_law_290 : decode cL_law 290 = .ok (.if_icmp .ne 110, 3) := by decide +kernel
theorem dL_law_293 : decode cL_law 293 = .ok (.aload_n 2, 1) := by decide +kernel
theorem dL_law_294 : decode cL_law 294 = .ok (.bipush 6, 2) := by decide +kernel
theorem dL_law_296 : decode cL_law 296 = .ok (.iconst 0, 1) := by decide +kernel
theorem dL_law_297 : decode cL_law 297 = .ok (.iconst 0, 1) := by decide +kernel
theorem dL_law_298 : decode cL_law 298 = .ok (.invokevirtual 109, 3) := by decide +kernel
theorem dL_law_301 : decode cL_law 301 = .ok (.bipush (-22), 2) := by decide +kernel
theorem dL_law_303 : decode cL_law 303 = .ok (.if_icmp .ne 97, 3) := by decide +kernel
theorem dL_law_306 : decode cL_law 306 = .ok (.aload_n 2, 1) := by decide +kernel
theorem dL_law_307 : decode cL_law 307 = .ok (.iconst 0, 1) := by decide +kernel
theorem dL_law_308 : decode cL_law 308 = .ok (.iconst 0, 1) := by decide +kernel
theorem dL_law_309 : decode cL_law 309 = .ok (.iconst 0, 1) := by decide +kernel
theorem dL_law_310 : decode cL_law 310 = .ok (.invokevirtual 112, 3) := by decide +kernel
theorem dL_law_313 : decode cL_law 313 = .ok (.iconst (-1), 1) := by decide +kernel
theorem dL_law_314 : decode cL_law 314 = .ok (.if_icmp .ne 86, 3) := by decide +kernel
theorem dL_law_317 : decode cL_law 317 = .ok (.aload_n 2, 1) := by decide +kernel
theorem dL_law_318 : decode cL_law 318 = .ok (.bipush 6, 2) := by decide +kernel
theorem dL_law_320 : decode cL_law 320 = .ok (.iconst 0, 1) := by decide +kernel
theorem dL_law_321 : decode cL_law 321 = .ok (.invokevirtual 118, 3) := by decide +kernel
theorem dL_law_324 : decode cL_law 324 = .ok (.ldc 144, 2) := by decide +kernel
theorem dL_law_326 : decode cL_law 326 = .ok (.if_icmp .ne 74, 3) := by decide +kernel
theorem dL_law_329 : decode cL_law 329 = .ok (.aload_n 2, 1) := by decide +kernel
theorem dL_law_330 : decode cL_law 330 = .ok (.bipush 6, 2) := by decide +kernel
theorem dL_law_332 : decode cL_law 332 = .ok (.invokevirtual 115, 3) := by decide +kernel
theorem dL_law_335 : decode cL_law 335 = .ok (.iconst (-1), 1) := by decide +kernel
theorem dL_law_336 : decode cL_law 336 = .ok (.if_icmp .ne 64, 3) := by decide +kernel
theorem dL_law_339 : decode cL_law 339 = .ok (.aload_n 2, 1) := by decide +kernel
theorem dL_law_340 : decode cL_law 340 = .ok (.iconst 0, 1) := by decide +kernel
theorem dL_law_341 : decode cL_law 341 = .ok (.iconst 0, 1) := by decide +kernel
theorem dL_law_342 : decode cL_law 342 = .ok (.iconst (-1), 1) := by decide +kernel
theorem dL_law_343 : decode cL_law 343 = .ok (.iconst 0, 1) := by decide +kernel
theorem dL_law_344 : decode cL_law 344 = .ok (.iconst 0, 1) := by decide +kernel
theorem dL_law_345 : decode cL_law 345 = .ok (.invokevirtual 147, 3) := by decide +kernel
theorem dL_law_348 : decode cL_law 348 = .ok (.iconst (-1), 1) := by decide +kernel
theorem dL_law_349 : decode cL_law 349 = .ok (.if_icmp .ne 51, 3) := by decide +kernel
theorem dL_law_352 : decode cL_law 352 = .ok (.aload_n 2, 1) := by decide +kernel
theorem dL_law_353 : decode cL_law 353 = .ok (.iconst 2, 1) := by decide +kernel
theorem dL_law_354 : decode cL_law 354 = .ok (.iconst 0, 1) := by decide +kernel
theorem dL_law_355 : decode cL_law 355 = .ok (.iconst 0, 1) := by decide +kernel
theorem dL_law_356 : decode cL_law 356 = .ok (.invokevirtual 121, 3) := by decide +kernel
theorem dL_law_359 : decode cL_law 359 = .ok (.iconst (-1), 1) := by decide +kernel
theorem dL_law_360 : decode cL_law 360 = .ok (.if_icmp .ne 40, 3) := by decide +kernel
theorem dL_law_363 : decode cL_law 363 = .ok (.aload_n 2, 1) := by decide +kernel
theorem dL_law_364 : decode cL_law 364 = .ok (.bipush 13, 2) := by decide +kernel
theorem dL_law_366 : decode cL_law 366 = .ok (.iconst 0, 1) := by decide +kernel
theorem dL_law_367 : decode cL_law 367 = .ok (.iconst 0, 1) := by decide +kernel
theorem dL_law_368 : decode cL_law 368 = .ok (.invokevirtual 124, 3) := by decide +kernel
theorem dL_law_371 : decode cL_law 371 = .ok (.iconst (-1), 1) := by decide +kernel
theorem dL_law_372 : decode cL_law 372 = .ok (.if_icmp .ne 28, 3) := by decide +kernel
theorem dL_law_375 : decode cL_law 375 = .ok (.aload_n 2, 1) := by decide +kernel
theorem dL_law_376 : decode cL_law 376 = .ok (.iconst 0, 1) := by decide +kernel
theorem dL_law_377 : decode cL_law 377 = .ok (.iconst 0, 1) := by decide +kernel
theorem dL_law_378 : decode cL_law 378 = .ok (.iconst 0, 1) := by decide +kernel
theorem dL_law_379 : decode cL_law 379 = .ok (.invokevirtual 127, 3) := by decide +kernel
theorem dL_law_382 : decode cL_law 382 = .ok (.iconst (-1), 1) := by decide +kernel
theorem dL_law_383 : decode cL_law 383 = .ok (.if_icmp .ne 17, 3) := by decide +kernel
theorem dL_law_386 : decode cL_law 386 = .ok (.aload_n 2, 1) := by decide +kernel
theorem dL_law_387 : decode cL_law 387 = .ok (.bipush 6, 2) := by decide +kernel
theorem dL_law_389 : decode cL_law 389 = .ok (.invokevirtual 150, 3) := by decide +kernel
theorem dL_law_392 : decode cL_law 392 = .ok (.iconst (-1), 1) := by decide +kernel
theorem dL_law_393 : decode cL_law 393 = .ok (.if_icmp .ne 7, 3) := by decide +kernel
theorem dL_law_396 : decode cL_law 396 = .ok (.iconst 1, 1) := by decide +kernel
theorem dL_law_397 : decode cL_law 397 = .ok (.goto 4, 3) := by decide +kernel
theorem dL_law_400 : decode cL_law 400 = .ok (.iconst 0, 1) := by decide +kernel
theorem dL_law_401 : decode cL_law 401 = .ok (.istore 9, 2) := by decide +kernel
theorem dL_law_403 : decode cL_law 403 = .ok (.iload 9, 2) := by decide +kernel
theorem dL_law_405 : decode cL_law 405 = .ok (.ifCond .eq 35, 3) := by decide +kernel
theorem dL_law_408 : decode cL_law 408 = .ok (.aload_n 1, 1) := by decide +kernel
theorem dL_law_409 : decode cL_law 409 = .ok (.iload 7, 2) := by decide +kernel
theorem dL_law_411 : decode cL_law 411 = .ok (.iload 8, 2) := by decide +kernel
theorem dL_law_413 : decode cL_law 413 = .ok (.aload_n 3, 1) := by decide +kernel
theorem dL_law_414 : decode cL_law 414 = .ok (.iconst 1, 1) := by decide +kernel
theorem dL_law_415 : decode cL_law 415 = .ok (.iaload, 1) := by decide +kernel
theorem dL_law_416 : decode cL_law 416 = .ok (.aload_n 3, 1) := by decide +kernel
theorem dL_law_417 : decode cL_law 417 = .ok (.iconst 0, 1) := by decide +kernel
theorem dL_law_418 : decode cL_law 418 = .ok (.iaload, 1) := by decide +kernel
theorem dL_law_419 : decode cL_law 419 = .ok (.invokestatic 153, 3) := by decide +kernel
theorem dL_law_422 : decode cL_law 422 = .ok (.aload_n 2, 1) := by decide +kernel
theorem dL_law_423 : decode cL_law 423 = .ok (.iload 7, 2) := by decide +kernel
theorem dL_law_425 : decode cL_law 425 = .ok (.iload 8, 2) := by decide +kernel
theorem dL_law_427 : decode cL_law 427 = .ok (.aload_n 3, 1) := by decide +kernel
theorem dL_law_428 : decode cL_law 428 = .ok (.iconst 1, 1) := by decide +kernel
theorem dL_law_429 : decode cL_law 429 = .ok (.iaload, 1) := by decide +kernel
theorem dL_law_430 : decode cL_law 430 = .ok (.aload_n 3, 1) := by decide +kernel
theorem dL_law_431 : decode cL_law 431 = .ok (.iconst 0, 1) := by decide +kernel
theorem dL_law_432 : decode cL_law 432 = .ok (.iaload, 1) := by decide +kernel
theorem dL_law_433 : decode cL_law 433 = .ok (.invokestatic 153, 3) := by decide +kernel
theorem dL_law_436 : decode cL_law 436 = .ok (.lcmp, 1) := by decide +kernel
theorem dL_law_437 : decode cL_law 437 = .ok (.ifCond .eq 5, 3) := by decide +kernel
theorem dL_law_440 : decode cL_law 440 = .ok (.iconst 0, 1) := by decide +kernel
theorem dL_law_441 : decode cL_law 441 = .ok (.ireturn, 1) := by decide +kernel
theorem dL_law_442 : decode cL_law 442 = .ok (.aload_n 1, 1) := by decide +kernel
theorem dL_law_443 : decode cL_law 443 = .ok (.iconst 3, 1) := by decide +kernel
theorem dL_law_444 : decode cL_law 444 = .ok (.iconst 0, 1) := by decide +kernel
theorem dL_law_445 : decode cL_law 445 = .ok (.iconst 0, 1) := by decide +kernel
theorem dL_law_446 : decode cL_law 446 = .ok (.invokevirtual 124, 3) := by decide +kernel
theorem dL_law_449 : decode cL_law 449 = .ok (.aload_n 2, 1) := by decide +kernel
theorem dL_law_450 : decode cL_law 450 = .ok (.iconst 3, 1) := by decide +kernel
theorem dL_law_451 : decode cL_law 451 = .ok (.iconst 0, 1) := by decide +kernel
theorem dL_law_452 : decode cL_law 452 = .ok (.iconst 0, 1) := by decide +kernel
theorem dL_law_453 : decode cL_law 453 = .ok (.invokevirtual 124, 3) := by decide +kernel
theorem dL_law_456 : decode cL_law 456 = .ok (.if_icmp .ne 43, 3) := by decide +kernel
theorem dL_law_459 : decode cL_law 459 = .ok (.aload_n 1, 1) := by decide +kernel
theorem dL_law_460 : decode cL_law 460 = .ok (.iconst 3, 1) := by decide +kernel
theorem dL_law_461 : decode cL_law 461 = .ok (.iconst 0, 1) := by decide +kernel
theorem dL_law_462 : decode cL_law 462 = .ok (.iconst 0, 1) := by decide +kernel
theorem dL_law_463 : decode cL_law 463 = .ok (.invokevirtual 127, 3) := by decide +kernel
theorem dL_law_466 : decode cL_law 466 = .ok (.aload_n 2, 1) := by decide +kernel
theorem dL_law_467 : decode cL_law 467 = .ok (.iconst 3, 1) := by decide +kernel
theorem dL_law_468 : decode cL_law 468 = .ok (.iconst 0, 1) := by decide +kernel
theorem dL_law_469 : decode cL_law 469 = .ok (.iconst 0, 1) := by decide +kernel
theorem dL_law_470 : decode cL_law 470 = .ok (.invokevirtual 127, 3) := by decide +kernel
theorem dL_law_473 : decode cL_law 473 = .ok (.if_icmp .ne 26, 3) := by decide +kernel
theorem dL_law_476 : decode cL_law 476 = .ok (.aload_n 1, 1) := by decide +kernel
theorem dL_law_477 : decode cL_law 477 = .ok (.iconst (-1), 1) := by decide +kernel
theorem dL_law_478 : decode cL_law 478 = .ok (.iconst 2, 1) := by decide +kernel
theorem dL_law_479 : decode cL_law 479 = .ok (.iconst 3, 1) := by decide +kernel
theorem dL_law_480 : decode cL_law 480 = .ok (.iconst 0, 1) := by decide +kernel
theorem dL_law_481 : decode cL_law 481 = .ok (.invokevirtual 105, 3) := by decide +kernel
theorem dL_law_484 : decode cL_law 484 = .ok (.aload_n 2, 1) := by decide +kernel
theorem dL_law_485 : decode cL_law 485 = .ok (.iconst (-1), 1) := by decide +kernel
theorem dL_law_486 : decode cL_law 486 = .ok (.iconst 2, 1) := by decide +kernel
theorem dL_law_487 : decode cL_law 487 = .ok (.iconst 3, 1) := by decide +kernel
theorem dL_law_488 : decode cL_law 488 = .ok (.iconst 0, 1) := by decide +kernel
theorem dL_law_489 : decode cL_law 489 = .ok (.invokevirtual 105, 3) := by decide +kernel
theorem dL_law_492 : decode cL_law 492 = .ok (.if_icmp .ne 7, 3) := by decide +kernel
theorem dL_law_495 : decode cL_law 495 = .ok (.iconst 1, 1) := by decide +kernel
theorem dL_law_496 : decode cL_law 496 = .ok (.goto 4, 3) := by decide +kernel
theorem dL_law_499 : decode cL_law 499 = .ok (.iconst 0, 1) := by decide +kernel
theorem dL_law_500 : decode cL_law 500 = .ok (.istore 10, 2) := by decide +kernel
theorem dL_law_502 : decode cL_law 502 = .ok (.iconst 0, 1) := by decide +kernel
theorem dL_law_503 : decode cL_law 503 = .ok (.istore 11, 2) := by decide +kernel
theorem dL_law_505 : decode cL_law 505 = .ok (.iload 11, 2) := by decide +kernel
theorem dL_law_507 : decode cL_law 507 = .ok (.bipush 6, 2) := by decide +kernel
theorem dL_law_509 : decode cL_law 509 = .ok (.if_icmp .ge 77, 3) := by decide +kernel
theorem dL_law_512 : decode cL_law 512 = .ok (.iload 10, 2) := by decide +kernel
theorem dL_law_514 : decode cL_law 514 = .ok (.ifCond .eq 63, 3) := by decide +kernel
theorem dL_law_517 : decode cL_law 517 = .ok (.aload_n 1, 1) := by decide +kernel
theorem dL_law_518 : decode cL_law 518 = .ok (.iload 11, 2) := by decide +kernel
theorem dL_law_520 : decode cL_law 520 = .ok (.invokevirtual 150, 3) := by decide +kernel
theorem dL_law_523 : decode cL_law 523 = .ok (.aload_n 2, 1) := by decide +kernel
theorem dL_law_524 : decode cL_law 524 = .ok (.iload 11, 2) := by decide +kernel
theorem dL_law_526 : decode cL_law 526 = .ok (.invokevirtual 150, 3) := by decide +kernel
theorem dL_law_529 : decode cL_law 529 = .ok (.if_icmp .ne 48, 3) := by decide +kernel
theorem dL_law_532 : decode cL_law 532 = .ok (.aload_n 1, 1) := by decide +kernel
theorem dL_law_533 : decode cL_law 533 = .ok (.iload 11, 2) := by decide +kernel
theorem dL_law_535 : decode cL_law 535 = .ok (.invokevirtual 150, 3) := by decide +kernel
theorem dL_law_538 : decode cL_law 538 = .ok (.ifCond .lt 39, 3) := by decide +kernel
theorem dL_law_541 : decode cL_law 541 = .ok (.aload_n 1, 1) := by decide +kernel
theorem dL_law_542 : decode cL_law 542 = .ok (.iload 11, 2) := by decide +kernel
theorem dL_law_544 : decode cL_law 544 = .ok (.iconst 0, 1) := by decide +kernel
theorem dL_law_545 : decode cL_law 545 = .ok (.invokevirtual 118, 3) := by decide +kernel
theorem dL_law_548 : decode cL_law 548 = .ok (.aload_n 2, 1) := by decide +kernel
theorem dL_law_549 : decode cL_law 549 = .ok (.iload 11, 2) := by decide +kernel
theorem dL_law_551 : decode cL_law 551 = .ok (.iconst 0, 1) := by decide +kernel
theorem dL_law_552 : decode cL_law 552 = .ok (.invokevirtual 118, 3) := by decide +kernel
theorem dL_law_555 : decode cL_law 555 = .ok (.if_icmp .ne 22, 3) := by decide +kernel
theorem dL_law_558 : decode cL_law 558 = .ok (.aload_n 1, 1) := by decide +kernel
theorem dL_law_559 : decode cL_law 559 = .ok (.iload 11, 2) := by decide +kernel
theorem dL_law_561 : decode cL_law 561 = .ok (.invokevirtual 115, 3) := by decide +kernel
theorem dL_law_564 : decode cL_law 564 = .ok (.aload_n 2, 1) := by decide +kernel
theorem dL_law_565 : decode cL_law 565 = .ok (.iload 11, 2) := by decide +kernel
theorem dL_law_567 : decode cL_law 567 = .ok (.invokevirtual 115, 3) := by decide +kernel
theorem dL_law_570 : decode cL_law 570 = .ok (.if_icmp .ne 7, 3) := by decide +kernel
theorem dL_law_573 : decode cL_law 573 = .ok (.iconst 1, 1) := by decide +kernel
theorem dL_law_574 : decode cL_law 574 = .ok (.goto 4, 3) := by decide +kernel
theorem dL_law_577 : decode cL_law 577 = .ok (.iconst 0, 1) := by decide +kernel
theorem dL_law_578 : decode cL_law 578 = .ok (.istore 10, 2) := by decide +kernel
theorem dL_law_580 : decode cL_law 580 = .ok (.iinc 11 1, 3) := by decide +kernel
theorem dL_law_583 : decode cL_law 583 = .ok (.goto (-78), 3) := by decide +kernel
theorem dL_law_586 : decode cL_law 586 = .ok (.iconst 0, 1) := by decide +kernel
theorem dL_law_587 : decode cL_law 587 = .ok (.istore 11, 2) := by decide +kernel
theorem dL_law_589 : decode cL_law 589 = .ok (.iload 11, 2) := by decide +kernel
theorem dL_law_591 : decode cL_law 591 = .ok (.aload_n 3, 1) := by decide +kernel
theorem dL_law_592 : decode cL_law 592 = .ok (.iconst 1, 1) := by decide +kernel
theorem dL_law_593 : decode cL_law 593 = .ok (.iaload, 1) := by decide +kernel
theorem dL_law_594 : decode cL_law 594 = .ok (.if_icmp .ge 38, 3) := by decide +kernel
theorem dL_law_597 : decode cL_law 597 = .ok (.iload 10, 2) := by decide +kernel
theorem dL_law_599 : decode cL_law 599 = .ok (.ifCond .eq 24, 3) := by decide +kernel
theorem dL_law_602 : decode cL_law 602 = .ok (.aload_n 1, 1) := by decide +kernel
theorem dL_law_603 : decode cL_law 603 = .ok (.iconst 3, 1) := by decide +kernel
theorem dL_law_604 : decode cL_law 604 = .ok (.iload 11, 2) := by decide +kernel
theorem dL_law_606 : decode cL_law 606 = .ok (.invokevirtual 76, 3) := by decide +kernel
theorem dL_law_609 : decode cL_law 609 = .ok (.aload_n 2, 1) := by decide +kernel
theorem dL_law_610 : decode cL_law 610 = .ok (.iconst 3, 1) := by decide +kernel
theorem dL_law_611 : decode cL_law 611 = .ok (.iload 11, 2) := by decide +kernel
theorem dL_law_613 : decode cL_law 613 = .ok (.invokevirtual 76, 3) := by decide +kernel
theorem dL_law_616 : decode cL_law 616 = .ok (.if_icmp .ne 7, 3) := by decide +kernel
theorem dL_law_619 : decode cL_law 619 = .ok (.iconst 1, 1) := by decide +kernel
theorem dL_law_620 : decode cL_law 620 = .ok (.goto 4, 3) := by decide +kernel
theorem dL_law_623 : decode cL_law 623 = .ok (.iconst 0, 1) := by decide +kernel
theorem dL_law_624 : decode cL_law 624 = .ok (.istore 10, 2) := by decide +kernel
theorem dL_law_626 : decode cL_law 626 = .ok (.iinc 11 1, 3) := by decide +kernel
theorem dL_law_629 : decode cL_law 629 = .ok (.goto (-40), 3) := by decide +kernel
theorem dL_law_632 : decode cL_law 632 = .ok (.iload 10, 2) := by decide +kernel
theorem dL_law_634 : decode cL_law 634 = .ok (.ifCond .eq 34, 3) := by decide +kernel
theorem dL_law_637 : decode cL_law 637 = .ok (.aload_n 1, 1) := by decide +kernel
theorem dL_law_638 : decode cL_law 638 = .ok (.iconst 1, 1) := by decide +kernel
theorem dL_law_639 : decode cL_law 639 = .ok (.invokevirtual 150, 3) := by decide +kernel
theorem dL_law_642 : decode cL_law 642 = .ok (.aload_n 3, 1) := by decide +kernel
theorem dL_law_643 : decode cL_law 643 = .ok (.iconst 1, 1) := by decide +kernel
theorem dL_law_644 : decode cL_law 644 = .ok (.iaload, 1) := by decide +kernel
theorem dL_law_645 : decode cL_law 645 = .ok (.if_icmp .ne 23, 3) := by decide +kernel
theorem dL_law_648 : decode cL_law 648 = .ok (.aload_n 1, 1) := by decide +kernel
theorem dL_law_649 : decode cL_law 649 = .ok (.iconst 4, 1) := by decide +kernel
theorem dL_law_650 : decode cL_law 650 = .ok (.invokevirtual 150, 3) := by decide +kernel
theorem dL_law_653 : decode cL_law 653 = .ok (.sipush 144, 3) := by decide +kernel
theorem dL_law_656 : decode cL_law 656 = .ok (.if_icmp .gt 12, 3) := by decide +kernel
theorem dL_law_659 : decode cL_law 659 = .ok (.aload_n 1, 1) := by decide +kernel
theorem dL_law_660 : decode cL_law 660 = .ok (.iconst 5, 1) := by decide +kernel
theorem dL_law_661 : decode cL_law 661 = .ok (.invokevirtual 150, 3) := by decide +kernel
theorem dL_law_664 : decode cL_law 664 = .ok (.iconst 2, 1) := by decide +kernel
theorem dL_law_665 : decode cL_law 665 = .ok (.if_icmp .le 5, 3) := by decide +kernel
theorem dL_law_668 : decode cL_law 668 = .ok (.iconst 0, 1) := by decide +kernel
theorem dL_law_669 : decode cL_law 669 = .ok (.ireturn, 1) := by decide +kernel
theorem dL_law_670 : decode cL_law 670 = .ok (.iinc 6 1, 3) := by decide +kernel
theorem dL_law_673 : decode cL_law 673 = .ok (.goto (-584), 3) := by decide +kernel
theorem dL_law_676 : decode cL_law 676 = .ok (.iconst 1, 1) := by decide +kernel
theorem dL_law_677 : decode cL_law 677 = .ok (.ireturn, 1) := by decide +kernel
