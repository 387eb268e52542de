set_option maxRecDepth 20000 in
theorem ggp_L_act_wsL_act_r1 : GoodIn wsL_law wsL_act_r1 := goodIn_r _ [753, 754, 755, 205, 206, 199, 207, 208, 370, 371, 372, 2, 373, 24, 374, 375, 376, 377, 378, 379, 380, 381, 224, 225] (by decide +kernel) (by decide +kernel)
set_option maxRecDepth 20000 in
theorem ggp_L_act_wsL_act_r2 : GoodIn wsL_law wsL_act_r2 := goodIn_r _ [226, 382, 383, 384, 385, 194, 195, 22, 196, 77, 190, 191, 192, 395, 396, 397, 398, 399, 400, 401, 402, 104, 105, 106] (by decide +kernel) (by decide +kernel)
set_option maxRecDepth 20000 in
theorem ggp_L_act_wsL_act_r3 : GoodIn wsL_law wsL_act_r3 := goodIn_r _ [107, 403, 392, 393, 394, 78, 177, 178, 179, 180, 72, 386, 387, 388, 389, 390, 391, 404, 405, 406, 407, 28, 408, 409] (by decide +kernel) (by decide +kernel)
set_option maxRecDepth 20000 in
theorem ggp_L_act_wsL_act_r4 : GoodIn wsL_law wsL_act_r4 := goodIn_r _ [410, 411, 412, 413, 27, 414, 84, 415, 416, 417, 418, 419, 420, 109, 110, 421, 283, 284, 422, 423, 424, 425, 74, 426] (by decide +kernel) (by decide +kernel)
set_option maxRecDepth 20000 in
theorem ggp_L_act_wsL_act_r5 : GoodIn wsL_law wsL_act_r5 := goodIn_r _ [427, 428, 429, 430, 431, 432, 433, 434, 435, 436, 437, 438, 439, 440, 441, 442, 159, 75, 443, 444, 445, 446, 447, 448] (by decide +kernel) (by decide +kernel)
set_option maxRecDepth 20000 in
theorem ggp_L_act_wsL_act_r6 : GoodIn wsL_law wsL_act_r6 := goodIn_r _ [449, 450, 451, 452, 453, 454, 455, 456, 457, 458, 459, 460, 461, 462, 463, 464, 465, 466, 467, 468, 469, 470, 471, 472] (by decide +kernel) (by decide +kernel)
set_option maxRecDepth 20000 in
theorem ggp_L_act_wsL_act_r7 : GoodIn wsL_law wsL_act_r7 := goodIn_r _ [473, 474, 475, 476, 477, 478, 83, 479, 480, 481, 482, 483, 484, 485, 486, 487, 488, 489, 490, 491, 492, 162, 493, 494] (by decide +kernel) (by decide +kernel)
set_option maxRecDepth 20000 in
theorem ggp_L_act_wsL_act_r8 : GoodIn wsL_law wsL_act_r8 := goodIn_r _ [495, 496, 185, 186, 187, 188, 71, 526, 527, 528, 529, 36, 530, 531, 532, 35, 533, 100, 534, 535, 536, 537, 98, 101] (by decide +kernel) (by decide +kernel)
set_option maxRecDepth 20000 in
theorem ggp_L_act_wsL_act_r9 : GoodIn wsL_law wsL_act_r9 := goodIn_r _ [538, 119, 120, 121, 539, 540, 541, 542, 543, 544, 99, 545, 546, 547, 548, 549, 550, 551, 497, 498, 499, 500, 501, 32] (by decide +kernel) (by decide +kernel)
set_option maxRecDepth 20000 in
theorem ggp_L_act_wsL_act_r10 : GoodIn wsL_law wsL_act_r10 := goodIn_r _ [502, 503, 504, 31, 505, 90, 91, 506, 507, 508, 509, 510, 511, 512, 92, 93, 513, 514, 515, 516, 517, 518, 519, 520] (by decide +kernel) (by decide +kernel)
