set_option maxRecDepth 20000 in
theorem ggp_L_fight_wsL_fight_r1 : GoodIn wsL_law wsL_fight_r1 := goodIn_r _ [201, 202, 199, 203, 204, 205, 206, 207, 208, 209, 210, 211, 2, 212, 15, 213, 214, 215, 14, 216, 60, 217, 218, 219] (by decide +kernel) (by decide +kernel)
set_option maxRecDepth 20000 in
theorem ggp_L_fight_wsL_fight_r2 : GoodIn wsL_law wsL_fight_r2 := goodIn_r _ [220, 221, 222, 223, 224, 225, 226, 227, 228, 229, 230, 59, 231, 232, 233, 234, 235, 236, 237, 19, 23, 238, 239, 240] (by decide +kernel) (by decide +kernel)
set_option maxRecDepth 20000 in
theorem ggp_L_fight_wsL_fight_r3 : GoodIn wsL_law wsL_fight_r3 := goodIn_r _ [18, 241, 66, 67, 65, 242, 156, 157, 22, 158, 159, 160, 161, 162, 163, 73, 74, 75, 164, 119, 120, 121, 243, 244] (by decide +kernel) (by decide +kernel)
set_option maxRecDepth 20000 in
theorem ggp_L_fight_wsL_fight_r4 : GoodIn wsL_law wsL_fight_r4 := goodIn_r _ [245, 246, 247, 248, 249, 250, 251, 252, 253, 254, 255, 256, 257, 258, 259, 260, 261, 262, 263, 264, 265, 266, 267, 268] (by decide +kernel) (by decide +kernel)
set_option maxRecDepth 20000 in
theorem ggp_L_fight_wsL_fight_r5 : GoodIn wsL_law wsL_fight_r5 := goodIn_r _ [269, 270, 271, 272, 273, 274, 275, 276, 277, 278, 279, 280, 281, 282, 283, 106, 284, 285, 109, 110, 286, 287, 288, 289] (by decide +kernel) (by decide +kernel)
set_option maxRecDepth 20000 in
theorem ggp_L_fight_wsL_fight_r6 : GoodIn wsL_law wsL_fight_r6 := goodIn_r _ [290, 291, 292, 293, 294, 295, 296, 297, 298, 299, 300, 301, 302, 303, 304, 305, 306, 307, 308, 309, 310, 311, 312, 313] (by decide +kernel) (by decide +kernel)
set_option maxRecDepth 20000 in
theorem ggp_L_fight_wsL_fight_r7 : GoodIn wsL_law wsL_fight_r7 := goodIn_r _ [314, 315, 316, 317, 318, 319, 320, 321, 322, 323, 324, 325, 326, 327, 328, 329, 330, 331, 332, 333, 334, 335, 336, 337] (by decide +kernel) (by decide +kernel)
set_option maxRecDepth 20000 in
theorem ggp_L_fight_wsL_fight_r8 : GoodIn wsL_law wsL_fight_r8 := goodIn_r _ [338, 339, 340, 341, 342, 343, 344, 345, 346, 347, 348, 349, 350, 351, 71, 169, 170, 171, 172, 352, 353, 354, 355, 165] (by decide +kernel) (by decide +kernel)
set_option maxRecDepth 20000 in
theorem ggp_L_fight_wsL_fight_r9 : GoodIn wsL_law wsL_fight_r9 := goodIn_r _ [166, 167, 168, 72, 356, 357, 358, 359, 24, 40, 54, 360, 174, 175, 176, 76, 77, 78, 177, 178, 179, 180, 181, 182] (by decide +kernel) (by decide +kernel)
set_option maxRecDepth 20000 in
theorem ggp_L_fight_wsL_fight_r10 : GoodIn wsL_law wsL_fight_r10 := goodIn_r _ [183, 184, 185, 186, 187, 188, 189, 102, 103, 104, 105, 107, 108, 190, 191, 192, 193, 194, 195, 196, 361, 362, 363, 39] (by decide +kernel) (by decide +kernel)
set_option maxRecDepth 20000 in
theorem ggp_L_fight_wsL_fight_r11 : GoodIn wsL_law wsL_fight_r11 := goodIn_r _ [364, 115, 118] (by decide +kernel) (by decide +kernel)
set_option maxRecDepth 20000 in
theorem ggp_L_fight_wsX100 : GoodIn wsL_law wsX100 := goodIn_r _ [769, 770, 771, 772, 773, 774, 775, 776, 777, 778, 779, 780, 781] (by decide +kernel) (by decide +kernel)
set_option maxRecDepth 20000 in
theorem ggp_L_fight_wsX80 : GoodIn wsL_law wsX80 := goodIn_r _ [782, 783] (by decide +kernel) (by decide +kernel)
set_option maxRecDepth 20000 in
theorem ggp_L_fight_wsX60 : GoodIn wsL_law wsX60 := goodIn_r _ [784, 785, 786] (by decide +kernel) (by decide +kernel)
set_option maxRecDepth 20000 in
theorem ggp_L_fight_wsX30 : GoodIn wsL_law wsX30 := goodIn_r _ [787, 788, 789, 790, 791, 792, 793, 794, 795, 796, 797, 798, 799] (by decide +kernel) (by decide +kernel)
set_option maxRecDepth 20000 in
theorem ggp_L_fight_wsX50 : GoodIn wsL_law wsX50 := goodIn_r _ [810, 811, 812] (by decide +kernel) (by decide +kernel)
theorem ggtL_fight : GoodIn wsL_law ((wsL_fight_r1 ++ (wsL_fight_r2 ++ (wsL_fight_r3 ++ (wsL_fight_r4 ++ (wsL_fight_r5 ++ (wsL_fight_r6 ++ (wsL_fight_r7 ++ (wsL_fight_r8 ++ (wsL_fight_r9 ++ (wsL_fight_r10 ++ wsL_fight_r11)))))))))) ++ wsX100 ++ wsX80 ++ wsX60 ++ wsX30 ++ wsX50) := (goodIn_app (goodIn_app (goodIn_app (goodIn_app (goodIn_app (goodIn_app ggp_L_fight_wsL_fight_r1 (goodIn_app ggp_L_fight_wsL_fight_r2 (goodIn_app ggp_L_fight_wsL_fight_r3 (goodIn_app ggp_L_fight_wsL_fight_r4 (goodIn_app ggp_L_fight_wsL_fight_r5 (goodIn_app ggp_L_fight_wsL_fight_r6 (goodIn_app ggp_L_fight_wsL_fight_r7 (goodIn_app ggp_L_fight_wsL_fight_r8 (goodIn_app ggp_L_fight_wsL_fight_r9 (goodIn_app ggp_L_fight_wsL_fight_r10 ggp_L_fight_wsL_fight_r11)))))))))) ggp_L_fight_wsX100) ggp_L_fight_wsX80) ggp_L_fight_wsX60) ggp_L_fight_wsX30) ggp_L_fight_wsX50)
set_option maxRecDepth 20000 in
theorem ggL_law_L_fight : GoodIn wsL_law wsL_fight := fun w hw => (List.mem_cons.mp hw).elim (fun e => e ▸ ⟨(List.mem_append_left _ (List.mem_append_left _ (List.mem_append_left _ (List.mem_append_left _ (List.mem_append_left _ (List.mem_append_left _ (List.mem_append_left _ (List.mem_append_left _ (List.mem_append_left _ (List.mem_append_left _ (List.mem_append_left _ (List.mem_append_left _ (List.mem_append_right _ (List.mem_append_right _ (List.mem_append_right _ (List.mem_append_right _ (List.mem_append_right _ (List.mem_append_right _ (List.mem_append_right _ (List.mem_append_right _ (List.mem_append_left _ (List.mem_of_getElem? (i := 8) rfl)))))))))))))))))))))), good_of_word (by decide +kernel)⟩) (ggtL_fight w)
