set_option maxRecDepth 20000 in
theorem ggL_law_L_cell : GoodIn wsL_law wsL_cell := goodIn_r _ [203, 204] (by decide +kernel) (by decide +kernel)
set_option maxRecDepth 20000 in
theorem gL_law_L_cell : GoodIn wsL_law (va_wsS RL 21 yL_cell wsL_cell) := goodIn_app (goodIn_of _ (by decide +kernel)) ggL_law_L_cell
set_option maxRecDepth 20000 in
theorem ggL_law_X10_write : GoodIn wsL_law wsX10_write := goodIn_r _ [223, 15, 224, 225, 2, 226, 227, 228, 229, 14, 230, 60, 59, 769, 770, 771, 772, 773, 774, 775, 776, 777, 778, 779, 780, 781, 782, 783] (by decide +kernel) (by decide +kernel)
set_option maxRecDepth 20000 in
theorem gL_law_X10_write : GoodIn wsL_law (wsV RL 9 RX10 yX10_write wsX10_write) := goodIn_app (goodIn_of _ (by decide +kernel)) ggL_law_X10_write
set_option maxRecDepth 20000 in
theorem ggL_law_X10_blow : GoodIn wsL_law wsX10_blow := goodIn_r _ [368, 24, 224, 225, 2, 226, 369, 186, 187, 22, 188, 71, 769, 770, 771, 772, 773, 774, 775, 776, 777, 778, 779, 780, 781, 787, 788, 789, 790, 791, 792, 793, 794, 795, 796, 797, 798, 799] (by decide +kernel) (by decide +kernel)
set_option maxRecDepth 20000 in
theorem gL_law_X10_blow : GoodIn wsL_law (wsV RL 141 RX10 yX10_blow wsX10_blow) := goodIn_app (goodIn_of _ (by decide +kernel)) ggL_law_X10_blow
set_option maxRecDepth 20000 in
theorem ggL_law_X10_sum : GoodIn wsL_law wsX10_sum := goodIn_r _ [373, 24, 374, 375, 376, 2, 377, 378, 379, 380, 381, 224, 225, 226, 382, 383, 384, 385, 194, 195, 22, 196, 77, 190, 191, 192, 769, 770, 771, 772, 773, 774, 775, 776, 777, 778, 779, 780, 781, 787, 788, 789, 790, 791, 792, 793, 794, 795, 796, 797, 798, 799] (by decide +kernel) (by decide +kernel)
set_option maxRecDepth 20000 in
theorem gL_law_X10_sum : GoodIn wsL_law (wsV RL 62 RX10 yX10_sum wsX10_sum) := goodIn_app (goodIn_of _ (by decide +kernel)) ggL_law_X10_sum
set_option maxRecDepth 20000 in
theorem ggL_law_X10_lead : GoodIn wsL_law wsX10_lead := goodIn_r _ [389, 24, 390, 374, 375, 376, 2, 377, 378, 379, 380, 381, 224, 225, 226, 391, 392, 393, 22, 394, 78, 769, 770, 771, 772, 773, 774, 775, 776, 777, 778, 779, 780, 781, 787, 788, 789, 790, 791, 792, 793, 794, 795, 796, 797, 798, 799] (by decide +kernel) (by decide +kernel)
set_option maxRecDepth 20000 in
theorem gL_law_X10_lead : GoodIn wsL_law (wsV RL 70 RX10 yX10_lead wsX10_lead) := goodIn_app (goodIn_of _ (by decide +kernel)) ggL_law_X10_lead
set_option maxRecDepth 20000 in
theorem ggL_law_X10_close : GoodIn wsL_law wsX10_close := goodIn_r _ [398, 24, 374, 375, 376, 2, 377, 378, 379, 380, 381, 224, 225, 226, 399, 400, 401, 22, 402, 104, 105, 106, 107, 403, 392, 393, 394, 78, 177, 178, 179, 180, 72, 769, 770, 771, 772, 773, 774, 775, 776, 777, 778, 779, 780, 781, 787, 788, 789, 790, 791, 792, 793, 794, 795, 796, 797, 798, 799] (by decide +kernel) (by decide +kernel)
set_option maxRecDepth 20000 in
theorem gL_law_X10_close : GoodIn wsL_law (wsV RL 68 RX10 yX10_close wsX10_close) := goodIn_app (goodIn_of _ (by decide +kernel)) ggL_law_X10_close
set_option maxRecDepth 20000 in
theorem ggL_law_X10_margin : GoodIn wsL_law wsX10_margin := goodIn_r _ [407, 28, 390, 408, 409, 2, 410, 224, 225, 226, 374, 375, 376, 377, 24, 378, 379, 380, 381, 411, 412, 413, 27, 414, 84, 415, 392, 393, 22, 394, 78, 416, 417, 418, 419, 420, 109, 106, 110, 421, 283, 284, 422, 423, 424, 425, 74, 426, 400, 401, 402, 104, 105, 107, 403, 177, 178, 179, 180, 72, 427, 428, 429, 430, 769, 770, 771, 772, 773, 774, 775, 776, 777, 778, 779, 780, 781, 787, 788, 789, 790, 791, 792, 793, 794, 795, 796, 797, 798, 799, 800, 801] (by decide +kernel) (by decide +kernel)
set_option maxRecDepth 20000 in
theorem gL_law_X10_margin : GoodIn wsL_law (wsV RL 72 RX10 yX10_margin wsX10_margin) := goodIn_app (goodIn_of _ (by decide +kernel)) ggL_law_X10_margin
set_option maxRecDepth 20000 in
theorem ggL_law_X10_card : GoodIn wsL_law wsX10_card := goodIn_r _ [434, 28, 390, 408, 409, 2, 410, 224, 225, 226, 378, 379, 380, 381, 24, 435, 436, 437, 27, 438, 84, 439, 440, 441, 22, 442, 159, 75, 443, 412, 413, 414, 415, 392, 393, 394, 78, 416, 417, 418, 419, 420, 109, 106, 110, 421, 283, 284, 422, 423, 424, 425, 74, 426, 400, 401, 402, 104, 105, 107, 403, 177, 178, 179, 180, 72, 427, 428, 429, 430, 769, 770, 771, 772, 773, 774, 775, 776, 777, 778, 779, 780, 781, 787, 788, 789, 790, 791, 792, 793, 794, 795, 796, 797, 798, 799, 800, 801] (by decide +kernel) (by decide +kernel)
set_option maxRecDepth 20000 in
theorem gL_law_X10_card : GoodIn wsL_law (wsV RL 76 RX10 yX10_card wsX10_card) := goodIn_app (goodIn_of _ (by decide +kernel)) ggL_law_X10_card
set_option maxRecDepth 20000 in
theorem ggL_law_X10_points : GoodIn wsL_law wsX10_points := goodIn_r _ [447, 28, 224, 225, 2, 226, 378, 379, 380, 381, 24, 382, 383, 384, 448, 449, 450, 27, 451, 84, 452, 283, 106, 284, 439, 440, 441, 22, 442, 159, 75, 443, 412, 413, 414, 415, 392, 393, 394, 78, 416, 417, 418, 419, 420, 109, 110, 421, 422, 423, 424, 425, 74, 426, 400, 401, 402, 104, 105, 107, 403, 177, 178, 179, 180, 72, 427, 428, 429, 430, 769, 770, 771, 772, 773, 774, 775, 776, 777, 778, 779, 780, 781, 787, 788, 789, 790, 791, 792, 793, 794, 795, 796, 797, 798, 799, 800, 801] (by decide +kernel) (by decide +kernel)
set_option maxRecDepth 20000 in
theorem gL_law_X10_points : GoodIn wsL_law (wsV RL 79 RX10 yX10_points wsX10_points) := goodIn_app (goodIn_of _ (by decide +kernel)) ggL_law_X10_points
set_option maxRecDepth 20000 in
theorem ggL_law_X10_end : GoodIn wsL_law wsX10_end := goodIn_r _ [456, 28, 408, 409, 2, 410, 224, 225, 226, 457, 458, 459, 460, 378, 379, 380, 381, 24, 435, 436, 437, 27, 438, 84, 439, 440, 441, 22, 442, 159, 75, 443, 412, 413, 414, 415, 392, 393, 394, 78, 416, 417, 418, 419, 420, 109, 106, 110, 421, 283, 284, 422, 423, 424, 425, 74, 426, 400, 401, 402, 104, 105, 107, 403, 177, 178, 179, 180, 72, 427, 428, 429, 430, 461, 462, 463, 464, 465, 466, 467, 468, 469, 470, 769, 770, 771, 772, 773, 774, 775, 776, 777, 778, 779, 780, 781, 787, 788, 789, 790, 791, 792, 793, 794, 795, 796, 797, 798, 799, 800, 801] (by decide +kernel) (by decide +kernel)
set_option maxRecDepth 20000 in
theorem gL_law_X10_end : GoodIn wsL_law (wsV RL 82 RX10 yX10_end wsX10_end) := goodIn_app (goodIn_of _ (by decide +kernel)) ggL_law_X10_end
set_option maxRecDepth 20000 in
theorem ggL_law_X10_others : GoodIn wsL_law wsX10_others := goodIn_r _ [474, 28, 408, 409, 2, 410, 224, 225, 226, 475, 476, 477, 27, 478, 84, 83, 479, 436, 437, 438, 439, 440, 441, 22, 442, 159, 75, 443, 412, 413, 414, 415, 392, 393, 394, 78, 416, 417, 418, 419, 420, 109, 106, 110, 421, 283, 284, 422, 423, 424, 425, 74, 426, 400, 401, 402, 104, 105, 107, 403, 177, 178, 179, 180, 72, 427, 428, 429, 430, 480, 462, 463, 470, 465, 466, 769, 770, 771, 772, 773, 774, 775, 776, 777, 778, 779, 780, 781, 800, 801, 787, 788, 789, 790, 791, 792, 793, 794, 795, 796, 797, 798, 799] (by decide +kernel) (by decide +kernel)
set_option maxRecDepth 20000 in
theorem gL_law_X10_others : GoodIn wsL_law (wsV RL 88 RX10 yX10_others wsX10_others) := goodIn_app (goodIn_of _ (by decide +kernel)) ggL_law_X10_others
set_option maxRecDepth 20000 in
theorem ggL_law_X10_men : GoodIn wsL_law wsX10_men := goodIn_r _ [484, 28, 408, 409, 2, 410, 224, 225, 226, 485, 486, 487, 27, 488, 84, 489, 490, 491, 22, 492, 162, 493, 494, 495, 496, 159, 185, 186, 187, 188, 71, 480, 462, 463, 479, 436, 437, 438, 439, 440, 441, 442, 75, 443, 412, 413, 414, 415, 392, 393, 394, 78, 416, 417, 418, 419, 420, 109, 106, 110, 421, 283, 284, 422, 423, 424, 425, 74, 426, 400, 401, 402, 104, 105, 107, 403, 177, 178, 179, 180, 72, 427, 428, 429, 430, 769, 770, 771, 772, 773, 774, 775, 776, 777, 778, 779, 780, 781, 800, 801, 787, 788, 789, 790, 791, 792, 793, 794, 795, 796, 797, 798, 799] (by decide +kernel) (by decide +kernel)
set_option maxRecDepth 20000 in
theorem gL_law_X10_men : GoodIn wsL_law (wsV RL 91 RX10 yX10_men wsX10_men) := goodIn_app (goodIn_of _ (by decide +kernel)) ggL_law_X10_men
set_option maxRecDepth 20000 in
theorem ggL_law_X10_coins : GoodIn wsL_law wsX10_coins := goodIn_r _ [500, 501, 32, 224, 225, 2, 226, 457, 458, 459, 460, 378, 379, 380, 381, 24, 502, 503, 504, 31, 505, 90, 91, 506, 507, 120, 508, 509, 510, 511, 512, 92, 93, 513, 400, 401, 22, 402, 104, 105, 106, 107, 403, 392, 393, 394, 78, 177, 178, 179, 180, 72, 514, 436, 437, 27, 438, 84, 439, 440, 441, 442, 159, 75, 443, 412, 413, 414, 415, 416, 417, 418, 419, 420, 109, 110, 421, 283, 284, 422, 423, 424, 425, 74, 426, 427, 428, 429, 430, 515, 462, 463, 516, 517, 518, 519, 520, 521, 522, 523, 524, 525, 465, 466, 769, 770, 771, 772, 773, 774, 775, 776, 777, 778, 779, 780, 781, 802, 803, 804, 805, 787, 788, 789, 790, 791, 792, 793, 794, 795, 796, 797, 798, 799, 800, 801] (by decide +kernel) (by decide +kernel)
set_option maxRecDepth 20000 in
theorem gL_law_X10_coins : GoodIn wsL_law (wsV RL 98 RX10 yX10_coins wsX10_coins) := goodIn_app (goodIn_of _ (by decide +kernel)) ggL_law_X10_coins
set_option maxRecDepth 20000 in
theorem ggL_law_X10_seats : GoodIn wsL_law wsX10_seats := goodIn_r _ [529, 36, 224, 225, 2, 226, 530, 531, 532, 35, 533, 100, 534, 535, 536, 537, 98, 101, 538, 119, 120, 121, 539, 494, 495, 22, 496, 159, 185, 186, 187, 188, 71, 540, 541, 542, 543, 544, 99, 545, 546, 547, 548, 549, 550, 551, 769, 770, 771, 772, 773, 774, 775, 776, 777, 778, 779, 780, 781, 806, 807, 808, 809, 787, 788, 789, 790, 791, 792, 793, 794, 795, 796, 797, 798, 799] (by decide +kernel) (by decide +kernel)
set_option maxRecDepth 20000 in
theorem gL_law_X10_seats : GoodIn wsL_law (wsV RL 95 RX10 yX10_seats wsX10_seats) := goodIn_app (goodIn_of _ (by decide +kernel)) ggL_law_X10_seats
set_option maxRecDepth 20000 in
theorem ggL_law_X10_delay : GoodIn wsL_law wsX10_delay := goodIn_r _ [555, 40, 378, 379, 380, 2, 381, 24, 224, 225, 226, 769, 770, 771, 772, 773, 774, 775, 776, 777, 778, 779, 780, 781, 810, 811, 812, 787, 788, 789, 790, 791, 792, 793, 794, 795, 796, 797, 798, 799] (by decide +kernel) (by decide +kernel)
set_option maxRecDepth 20000 in
theorem gL_law_X10_delay : GoodIn wsL_law (wsV RL 102 RX10 yX10_delay wsX10_delay) := goodIn_app (goodIn_of _ (by decide +kernel)) ggL_law_X10_delay
set_option maxRecDepth 20000 in
theorem ggL_law_X10_buttons : GoodIn wsL_law wsX10_buttons := goodIn_r _ [559, 24, 44, 224, 225, 2, 226, 560, 561, 562, 43, 563, 127, 564, 283, 106, 284, 565, 566, 567, 568, 129, 128, 569, 570, 571, 572, 573, 186, 187, 22, 188, 71, 574, 575, 576, 577, 126, 578, 579, 580, 581, 582, 583, 584, 585, 76, 586, 587, 588, 589, 590, 591, 592, 593, 130, 594, 595, 596, 597, 598, 599, 600, 601, 602, 603, 604, 605, 769, 770, 771, 772, 773, 774, 775, 776, 777, 778, 779, 780, 781, 787, 788, 789, 790, 791, 792, 793, 794, 795, 796, 797, 798, 799, 813, 814, 815, 816, 817, 810, 811, 812] (by decide +kernel) (by decide +kernel)
set_option maxRecDepth 20000 in
theorem gL_law_X10_buttons : GoodIn wsL_law (wsV RL 105 RX10 yX10_buttons wsX10_buttons) := goodIn_app (goodIn_of _ (by decide +kernel)) ggL_law_X10_buttons
set_option maxRecDepth 20000 in
theorem ggL_law_X10_tell : GoodIn wsL_law wsX10_tell := goodIn_r _ [609, 40, 610, 611, 2, 612, 224, 225, 226, 613, 614, 615, 39, 616, 116, 617, 618, 619, 620, 769, 770, 771, 772, 773, 774, 775, 776, 777, 778, 779, 780, 781, 810, 811, 812] (by decide +kernel) (by decide +kernel)
set_option maxRecDepth 20000 in
theorem gL_law_X10_tell : GoodIn wsL_law (wsV RL 109 RX10 yX10_tell wsX10_tell) := goodIn_app (goodIn_of _ (by decide +kernel)) ggL_law_X10_tell
set_option maxRecDepth 20000 in
theorem ggL_law_X10_same : GoodIn wsL_law wsX10_same := goodIn_r _ [624, 48, 610, 611, 2, 612, 224, 225, 226, 625, 626, 627, 47, 628, 135, 136, 139, 629, 119, 120, 121, 630, 631, 632, 39, 633, 634, 614, 615, 616, 116, 635, 416, 417, 636, 637, 638, 639, 769, 770, 771, 772, 773, 774, 775, 776, 777, 778, 779, 780, 781, 818, 819, 820, 821, 822, 810, 811, 812] (by decide +kernel) (by decide +kernel)
set_option maxRecDepth 20000 in
theorem gL_law_X10_same : GoodIn wsL_law (wsV RL 112 RX10 yX10_same wsX10_same) := goodIn_app (goodIn_of _ (by decide +kernel)) ggL_law_X10_same
set_option maxRecDepth 20000 in
theorem ggL_law_X10_lean : GoodIn wsL_law wsX10_lean := goodIn_r _ [643, 48, 390, 610, 611, 2, 612, 224, 225, 226, 644, 645, 646, 47, 647, 139, 138, 648, 649, 650, 651, 630, 631, 632, 39, 633, 634, 614, 615, 616, 116, 635, 652, 653, 654, 655, 137, 656, 657, 658, 659, 769, 770, 771, 772, 773, 774, 775, 776, 777, 778, 779, 780, 781, 818, 819, 820, 821, 822, 810, 811, 812] (by decide +kernel) (by decide +kernel)
set_option maxRecDepth 20000 in
theorem gL_law_X10_lean : GoodIn wsL_law (wsV RL 118 RX10 yX10_lean wsX10_lean) := goodIn_app (goodIn_of _ (by decide +kernel)) ggL_law_X10_lean
set_option maxRecDepth 20000 in
theorem ggL_law_X10_unlike : GoodIn wsL_law wsX10_unlike := goodIn_r _ [663, 48, 610, 611, 2, 612, 224, 225, 226, 664, 665, 666, 47, 667, 139, 138, 137, 668, 105, 106, 107, 648, 649, 650, 651, 630, 631, 632, 39, 633, 634, 614, 615, 616, 116, 635, 652, 653, 654, 655, 769, 770, 771, 772, 773, 774, 775, 776, 777, 778, 779, 780, 781, 818, 819, 820, 821, 822, 810, 811, 812] (by decide +kernel) (by decide +kernel)
set_option maxRecDepth 20000 in
theorem gL_law_X10_unlike : GoodIn wsL_law (wsV RL 115 RX10 yX10_unlike wsX10_unlike) := goodIn_app (goodIn_of _ (by decide +kernel)) ggL_law_X10_unlike
set_option maxRecDepth 20000 in
theorem ggL_law_X10_added : GoodIn wsL_law wsX10_added := goodIn_r _ [672, 28, 224, 225, 2, 226, 382, 383, 384, 673, 674, 675, 448, 449, 450, 27, 451, 84, 452, 283, 106, 284, 439, 440, 441, 22, 442, 159, 75, 443, 412, 413, 414, 415, 392, 393, 394, 78, 416, 417, 418, 419, 420, 109, 110, 421, 422, 423, 424, 425, 74, 426, 400, 401, 402, 104, 105, 107, 403, 177, 178, 179, 180, 72, 427, 428, 429, 430, 769, 770, 771, 772, 773, 774, 775, 776, 777, 778, 779, 780, 781, 800, 801, 787, 788, 789, 790, 791, 792, 793, 794, 795, 796, 797, 798, 799] (by decide +kernel) (by decide +kernel)
set_option maxRecDepth 20000 in
theorem gL_law_X10_added : GoodIn wsL_law (wsV RL 147 RX10 yX10_added wsX10_added) := goodIn_app (goodIn_of _ (by decide +kernel)) ggL_law_X10_added
set_option maxRecDepth 20000 in
theorem ggL_law_X10_tenths : GoodIn wsL_law wsX10_tenths := goodIn_r _ [679, 40, 224, 225, 2, 226, 680, 681, 682, 39, 683, 117, 684, 685, 686, 687, 769, 770, 771, 772, 773, 774, 775, 776, 777, 778, 779, 780, 781, 810, 811, 812] (by decide +kernel) (by decide +kernel)
set_option maxRecDepth 20000 in
theorem gL_law_X10_tenths : GoodIn wsL_law (wsV RL 121 RX10 yX10_tenths wsX10_tenths) := goodIn_app (goodIn_of _ (by decide +kernel)) ggL_law_X10_tenths
set_option maxRecDepth 20000 in
theorem ggL_law_X10_open : GoodIn wsL_law wsX10_open := goodIn_r _ [691, 52, 692, 693, 2, 694, 224, 225, 226, 695, 696, 697, 51, 698, 144, 145, 146, 699, 700, 701, 702, 703, 704, 705, 706, 707, 708, 149, 148, 709, 681, 682, 39, 683, 117, 710, 711, 712, 713, 714, 715, 716, 717, 109, 106, 110, 718, 719, 720, 721, 147, 722, 723, 724, 725, 726, 727, 728, 729, 769, 770, 771, 772, 773, 774, 775, 776, 777, 778, 779, 780, 781, 823, 824, 825, 826, 827, 828, 810, 811, 812] (by decide +kernel) (by decide +kernel)
set_option maxRecDepth 20000 in
theorem gL_law_X10_open : GoodIn wsL_law (wsV RL 124 RX10 yX10_open wsX10_open) := goodIn_app (goodIn_of _ (by decide +kernel)) ggL_law_X10_open
set_option maxRecDepth 20000 in
theorem ggL_law_X10_hidden : GoodIn wsL_law wsX10_hidden := goodIn_r _ [733, 52, 692, 693, 2, 694, 224, 225, 226, 734, 735, 736, 51, 737, 149, 146, 148, 709, 681, 682, 39, 683, 117, 738, 739, 740, 741, 145, 144, 699, 700, 701, 702, 703, 704, 710, 711, 712, 722, 723, 724, 725, 713, 714, 715, 716, 717, 109, 106, 110, 718, 719, 720, 721, 147, 726, 727, 728, 729, 769, 770, 771, 772, 773, 774, 775, 776, 777, 778, 779, 780, 781, 823, 824, 825, 826, 827, 828, 810, 811, 812] (by decide +kernel) (by decide +kernel)
set_option maxRecDepth 20000 in
theorem gL_law_X10_hidden : GoodIn wsL_law (wsV RL 127 RX10 yX10_hidden wsX10_hidden) := goodIn_app (goodIn_of _ (by decide +kernel)) ggL_law_X10_hidden
set_option maxRecDepth 20000 in
theorem ggL_law_X10_count : GoodIn wsL_law wsX10_count := goodIn_r _ [745, 24, 15, 40, 54, 746, 747, 748, 39, 749, 116, 769, 770, 771, 772, 773, 774, 775, 776, 777, 778, 779, 780, 781, 787, 788, 789, 790, 791, 792, 793, 794, 795, 796, 797, 798, 799, 782, 783, 810, 811, 812] (by decide +kernel) (by decide +kernel)
set_option maxRecDepth 20000 in
theorem gL_law_X10_count : GoodIn wsL_law (wsV RL 150 RX10 yX10_count wsX10_count) := goodIn_app (goodIn_of _ (by decide +kernel)) ggL_law_X10_count
