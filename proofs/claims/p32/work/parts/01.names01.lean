theorem mem_r {big : List Cond} (ws : List Cond) (ps : List Nat) (hp : ws = ps.filterMap (fun i => big[i]?)) : ∀ w ∈ ws, w ∈ big := by
  intro w hw
  rw [hp] at hw
  obtain ⟨i, -, hi⟩ := List.mem_filterMap.mp hw
  exact List.mem_of_getElem? hi
set_option maxRecDepth 20000 in
theorem inL_wsL_law_r1 : ∀ w ∈ wsL_law_r1, w ∈ lw_tbl := mem_r _ [54, 55, 34, 94, 963, 964, 56, 57, 58, 59, 60, 61, 62, 63, 35, 347, 78, 79, 36, 348, 95, 96, 37, 349] (by decide +kernel)
set_option maxRecDepth 20000 in
theorem inL_wsL_law_r2 : ∀ w ∈ wsL_law_r2, w ∈ lw_tbl := mem_r _ [350, 151, 152, 38, 351, 164, 165, 39, 352, 185, 186, 40, 353, 214, 215, 42, 354, 235, 236, 44, 355, 257, 258, 45] (by decide +kernel)
set_option maxRecDepth 20000 in
theorem inL_wsL_law_r3 : ∀ w ∈ wsL_law_r3, w ∈ lw_tbl := mem_r _ [356, 279, 280, 46, 357, 358, 359, 65, 66, 67, 77, 68, 69, 80, 81, 82, 83, 85, 86, 84, 98, 99, 100, 115] (by decide +kernel)
set_option maxRecDepth 20000 in
theorem inL_wsL_law_r4 : ∀ w ∈ wsL_law_r4, w ∈ lw_tbl := mem_r _ [116, 117, 118, 119, 120, 122, 123, 153, 154, 155, 156, 158, 157, 166, 167, 168, 169, 184, 172, 173, 170, 171, 187, 188] (by decide +kernel)
set_option maxRecDepth 20000 in
theorem inL_wsL_law_r5 : ∀ w ∈ wsL_law_r5, w ∈ lw_tbl := mem_r _ [189, 190, 201, 202, 203, 200, 192, 193, 194, 195, 41, 196, 197, 198, 199, 216, 217, 218, 219, 223, 226, 227, 220, 221] (by decide +kernel)
set_option maxRecDepth 20000 in
theorem inL_wsL_law_r6 : ∀ w ∈ wsL_law_r6, w ∈ lw_tbl := mem_r _ [43, 222, 237, 238, 239, 240, 243, 244, 245, 241, 242, 259, 260, 261, 262, 264, 265, 266, 267, 263, 281, 282, 283, 284] (by decide +kernel)
set_option maxRecDepth 20000 in
theorem inL_wsL_law_r7 : ∀ w ∈ wsL_law_r7, w ∈ lw_tbl := mem_r _ [286, 287, 288, 289, 290, 285, 305, 306, 307, 308, 314, 309, 310, 311, 312, 101, 105, 106, 107, 111, 313, 316, 318, 0] (by decide +kernel)
set_option maxRecDepth 20000 in
theorem inL_wsL_law_r8 : ∀ w ∈ wsL_law_r8, w ∈ lw_tbl := mem_r _ [319, 320, 322, 321, 47, 323, 324, 325, 326, 327, 328, 329, 330, 331, 333, 1, 334, 335, 336, 337, 338, 339, 340, 341] (by decide +kernel)
set_option maxRecDepth 20000 in
theorem inL_wsL_law_r9 : ∀ w ∈ wsL_law_r9, w ∈ lw_tbl := mem_r _ [342, 343, 344, 345, 346, 791, 792, 33, 793, 787, 788, 789, 790, 794, 795, 796, 797, 798, 799, 800, 801, 802, 803, 804] (by decide +kernel)
set_option maxRecDepth 20000 in
theorem inL_wsL_law_r10 : ∀ w ∈ wsL_law_r10, w ∈ lw_tbl := mem_r _ [805, 806, 807, 808, 387, 388, 389, 390, 391, 392, 393, 394, 395, 396, 397, 809, 810, 811, 812, 813, 814, 815, 816, 817] (by decide +kernel)
set_option maxRecDepth 20000 in
theorem inL_wsL_law_r11 : ∀ w ∈ wsL_law_r11, w ∈ lw_tbl := mem_r _ [818, 819, 820, 821, 823, 29, 824, 912, 919, 921, 826, 827, 828, 829, 830, 831, 832, 48, 833, 834, 835, 836, 837, 966] (by decide +kernel)
set_option maxRecDepth 20000 in
theorem inL_wsL_law_r12 : ∀ w ∈ wsL_law_r12, w ∈ lw_tbl := mem_r _ [838, 839, 840, 841, 842, 965, 844, 845, 846, 847, 848, 849, 850, 851, 852, 853, 49, 854, 858, 457, 458, 859, 855, 856] (by decide +kernel)
set_option maxRecDepth 20000 in
theorem inL_wsL_law_r13 : ∀ w ∈ wsL_law_r13, w ∈ lw_tbl := mem_r _ [857, 860, 861, 862, 863, 864, 50, 865, 866, 867, 868, 869, 870, 871, 872, 873, 874, 875, 876, 877, 878, 879, 880, 881] (by decide +kernel)
set_option maxRecDepth 20000 in
theorem inL_wsL_law_r14 : ∀ w ∈ wsL_law_r14, w ∈ lw_tbl := mem_r _ [883, 884, 51, 885, 886, 887, 888, 889, 890, 891, 892, 894, 896, 898, 899, 900, 901, 902, 52, 903, 904, 905, 906, 907] (by decide +kernel)
set_option maxRecDepth 20000 in
theorem inL_wsL_law_r15 : ∀ w ∈ wsL_law_r15, w ∈ lw_tbl := mem_r _ [908, 909, 910, 911, 914, 916, 30, 917, 923, 924, 925, 926, 927, 929, 31, 930, 931, 933, 32, 934, 935, 936, 937, 938] (by decide +kernel)
set_option maxRecDepth 20000 in
theorem inL_wsL_law_r16 : ∀ w ∈ wsL_law_r16, w ∈ lw_tbl := mem_r _ [939, 940, 941, 942, 943, 398, 399, 400, 401, 402, 403, 404, 405, 406, 407, 409, 2, 410, 411, 413, 3, 414, 415, 416] (by decide +kernel)
set_option maxRecDepth 20000 in
theorem inL_wsL_law_r17 : ∀ w ∈ wsL_law_r17, w ∈ lw_tbl := mem_r _ [417, 418, 419, 420, 421, 422, 427, 423, 424, 425, 426, 428, 429, 430, 431, 432, 433, 434, 435, 436, 437, 438, 439, 440] (by decide +kernel)
set_option maxRecDepth 20000 in
theorem inL_wsL_law_r18 : ∀ w ∈ wsL_law_r18, w ∈ lw_tbl := mem_r _ [441, 442, 443, 444, 445, 446, 447, 448, 450, 451, 453, 454, 455, 456, 459, 460, 461, 462, 463, 464, 466, 4, 467, 468] (by decide +kernel)
set_option maxRecDepth 20000 in
theorem inL_wsL_law_r19 : ∀ w ∈ wsL_law_r19, w ∈ lw_tbl := mem_r _ [469, 470, 471, 472, 473, 474, 475, 476, 477, 478, 479, 480, 481, 482, 483, 484, 485, 486, 487, 488, 489, 490, 491, 492] (by decide +kernel)
set_option maxRecDepth 20000 in
theorem inL_wsL_law_r20 : ∀ w ∈ wsL_law_r20, w ∈ lw_tbl := mem_r _ [493, 494, 496, 5, 497, 498, 499, 500, 501, 502, 503, 504, 505, 506, 507, 508, 509, 510, 511, 512, 513, 514, 515, 516] (by decide +kernel)
set_option maxRecDepth 20000 in
theorem inL_wsL_law_r21 : ∀ w ∈ wsL_law_r21, w ∈ lw_tbl := mem_r _ [517, 518, 519, 520, 521, 522, 523, 524, 525, 526, 527, 528, 529, 530, 531, 532, 533, 534, 535, 536, 537, 538, 539, 540] (by decide +kernel)
set_option maxRecDepth 20000 in
theorem inL_wsL_law_r22 : ∀ w ∈ wsL_law_r22, w ∈ lw_tbl := mem_r _ [541, 542, 543, 544, 545, 546, 548, 6, 549, 550, 551, 552, 553, 554, 555, 556, 562, 557, 559, 7, 560, 561, 563, 564] (by decide +kernel)
set_option maxRecDepth 20000 in
theorem inL_wsL_law_r23 : ∀ w ∈ wsL_law_r23, w ∈ lw_tbl := mem_r _ [565, 566, 567, 568, 569, 570, 571, 573, 8, 574, 575, 576, 577, 578, 580, 9, 581, 582, 583, 53, 584, 585, 586, 587] (by decide +kernel)
set_option maxRecDepth 20000 in
theorem inL_wsL_law_r24 : ∀ w ∈ wsL_law_r24, w ∈ lw_tbl := mem_r _ [588, 589, 590, 591, 592, 593, 594, 595, 596, 597, 598, 599, 641, 600, 602, 10, 603, 604, 606, 11, 607, 608, 609, 611] (by decide +kernel)
set_option maxRecDepth 20000 in
theorem inL_wsL_law_r25 : ∀ w ∈ wsL_law_r25, w ∈ lw_tbl := mem_r _ [12, 612, 613, 615, 13, 616, 617, 618, 619, 620, 621, 623, 14, 624, 625, 627, 15, 628, 629, 631, 16, 632, 633, 635] (by decide +kernel)
set_option maxRecDepth 20000 in
theorem inL_wsL_law_r26 : ∀ w ∈ wsL_law_r26, w ∈ lw_tbl := mem_r _ [17, 636, 637, 639, 18, 640, 642, 643, 644, 645, 646, 647, 648, 649, 650, 651, 652, 653, 654, 655, 656, 657, 658, 659] (by decide +kernel)
set_option maxRecDepth 20000 in
theorem inL_wsL_law_r27 : ∀ w ∈ wsL_law_r27, w ∈ lw_tbl := mem_r _ [660, 661, 662, 663, 664, 665, 666, 667, 668, 669, 670, 671, 673, 675, 19, 676, 677, 678, 679, 680, 681, 682, 683, 684] (by decide +kernel)
set_option maxRecDepth 20000 in
theorem inL_wsL_law_r28 : ∀ w ∈ wsL_law_r28, w ∈ lw_tbl := mem_r _ [685, 687, 20, 688, 689, 691, 21, 692, 693, 695, 22, 696, 697, 698, 699, 700, 701, 702, 703, 704, 705, 706, 707, 708] (by decide +kernel)
set_option maxRecDepth 20000 in
theorem inL_wsL_law_r29 : ∀ w ∈ wsL_law_r29, w ∈ lw_tbl := mem_r _ [709, 710, 711, 712, 713, 714, 715, 716, 717, 718, 719, 720, 721, 722, 723, 724, 725, 726, 727, 728, 729, 730, 731, 732] (by decide +kernel)
set_option maxRecDepth 20000 in
theorem inL_wsL_law_r30 : ∀ w ∈ wsL_law_r30, w ∈ lw_tbl := mem_r _ [733, 734, 735, 736, 738, 23, 739, 740, 741, 742, 744, 24, 745, 746, 747, 748, 749, 750, 752, 25, 753, 754, 755, 757] (by decide +kernel)
set_option maxRecDepth 20000 in
theorem inL_wsL_law_r31 : ∀ w ∈ wsL_law_r31, w ∈ lw_tbl := mem_r _ [26, 758, 759, 761, 27, 762, 763, 764, 765, 766, 767, 768, 769, 770, 771, 772, 773, 774, 775, 777, 28, 778, 779, 780] (by decide +kernel)
set_option maxRecDepth 20000 in
theorem inL_wsL_law_r32 : ∀ w ∈ wsL_law_r32, w ∈ lw_tbl := mem_r _ [781, 782, 783, 784, 785, 786, 944, 945, 946, 947, 948, 949, 950, 951, 952, 953, 954, 955, 956, 957, 958, 959, 960, 961] (by decide +kernel)
set_option maxRecDepth 20000 in
theorem inL_wsL_law_r33 : ∀ w ∈ wsL_law_r33, w ∈ lw_tbl := mem_r _ [962] (by decide +kernel)
set_option maxRecDepth 20000 in
theorem inL_wsX100 : ∀ w ∈ wsX100, w ∈ lw_tbl := mem_r _ [360, 362, 364, 366, 368, 370, 372, 374, 376, 378, 380, 382, 384] (by decide +kernel)
set_option maxRecDepth 20000 in
theorem inL_wsX80 : ∀ w ∈ wsX80, w ∈ lw_tbl := mem_r _ [72, 74] (by decide +kernel)
set_option maxRecDepth 20000 in
theorem inL_wsX60 : ∀ w ∈ wsX60, w ∈ lw_tbl := mem_r _ [87, 89, 91] (by decide +kernel)
set_option maxRecDepth 20000 in
theorem inL_wsX30 : ∀ w ∈ wsX30, w ∈ lw_tbl := mem_r _ [124, 126, 128, 130, 132, 134, 136, 138, 140, 142, 144, 146, 148] (by decide +kernel)
set_option maxRecDepth 20000 in
theorem inL_wsX10 : ∀ w ∈ wsX10, w ∈ lw_tbl := mem_r _ [159, 161] (by decide +kernel)
set_option maxRecDepth 20000 in
theorem inL_wsX20 : ∀ w ∈ wsX20, w ∈ lw_tbl := mem_r _ [175, 177, 179, 181] (by decide +kernel)
set_option maxRecDepth 20000 in
theorem inL_wsX70 : ∀ w ∈ wsX70, w ∈ lw_tbl := mem_r _ [205, 207, 209, 211] (by decide +kernel)
set_option maxRecDepth 20000 in
theorem inL_wsX50 : ∀ w ∈ wsX50, w ∈ lw_tbl := mem_r _ [228, 230, 232] (by decide +kernel)
set_option maxRecDepth 20000 in
theorem inL_wsX00 : ∀ w ∈ wsX00, w ∈ lw_tbl := mem_r _ [246, 248, 250, 252, 254] (by decide +kernel)
set_option maxRecDepth 20000 in
theorem inL_wsX90 : ∀ w ∈ wsX90, w ∈ lw_tbl := mem_r _ [268, 270, 272, 274, 276] (by decide +kernel)
set_option maxRecDepth 20000 in
theorem inL_wsX40 : ∀ w ∈ wsX40, w ∈ lw_tbl := mem_r _ [291, 293, 295, 297, 299, 301] (by decide +kernel)
set_option maxRecDepth 20000 in
theorem wsL_law_in : ∀ w ∈ wsL_law, w ∈ lw_tbl := (List.forall_mem_append.mpr ⟨(List.forall_mem_append.mpr ⟨(List.forall_mem_append.mpr ⟨(List.forall_mem_append.mpr ⟨(List.forall_mem_append.mpr ⟨(List.forall_mem_append.mpr ⟨(List.forall_mem_append.mpr ⟨(List.forall_mem_append.mpr ⟨(List.forall_mem_append.mpr ⟨(List.forall_mem_append.mpr ⟨(List.forall_mem_append.mpr ⟨(List.forall_mem_append.mpr ⟨(List.forall_mem_append.mpr ⟨inL_wsL_law_r1, (List.forall_mem_append.mpr ⟨inL_wsL_law_r2, (List.forall_mem_append.mpr ⟨inL_wsL_law_r3, (List.forall_mem_append.mpr ⟨inL_wsL_law_r4, (List.forall_mem_append.mpr ⟨inL_wsL_law_r5, (List.forall_mem_append.mpr ⟨inL_wsL_law_r6, (List.forall_mem_append.mpr ⟨inL_wsL_law_r7, (List.forall_mem_append.mpr ⟨inL_wsL_law_r8, (List.forall_mem_append.mpr ⟨inL_wsL_law_r9, (List.forall_mem_append.mpr ⟨inL_wsL_law_r10, (List.forall_mem_append.mpr ⟨inL_wsL_law_r11, (List.forall_mem_append.mpr ⟨inL_wsL_law_r12, (List.forall_mem_append.mpr ⟨inL_wsL_law_r13, (List.forall_mem_append.mpr ⟨inL_wsL_law_r14, (List.forall_mem_append.mpr ⟨inL_wsL_law_r15, (List.forall_mem_append.mpr ⟨inL_wsL_law_r16, (List.forall_mem_append.mpr ⟨inL_wsL_law_r17, (List.forall_mem_append.mpr ⟨inL_wsL_law_r18, (List.forall_mem_append.mpr ⟨inL_wsL_law_r19, (List.forall_mem_append.mpr ⟨inL_wsL_law_r20, (List.forall_mem_append.mpr ⟨inL_wsL_law_r21, (List.forall_mem_append.mpr ⟨inL_wsL_law_r22, (List.forall_mem_append.mpr ⟨inL_wsL_law_r23, (List.forall_mem_append.mpr ⟨inL_wsL_law_r24, (List.forall_mem_append.mpr ⟨inL_wsL_law_r25, (List.forall_mem_append.mpr ⟨inL_wsL_law_r26, (List.forall_mem_append.mpr ⟨inL_wsL_law_r27, (List.forall_mem_append.mpr ⟨inL_wsL_law_r28, (List.forall_mem_append.mpr ⟨inL_wsL_law_r29, (List.forall_mem_append.mpr ⟨inL_wsL_law_r30, (List.forall_mem_append.mpr ⟨inL_wsL_law_r31, (List.forall_mem_append.mpr ⟨inL_wsL_law_r32, inL_wsL_law_r33⟩)⟩)⟩)⟩)⟩)⟩)⟩)⟩)⟩)⟩)⟩)⟩)⟩)⟩)⟩)⟩)⟩)⟩)⟩)⟩)⟩)⟩)⟩)⟩)⟩)⟩)⟩)⟩)⟩)⟩)⟩)⟩), inL_wsX100⟩), inL_wsX80⟩), inL_wsX60⟩), inL_wsX30⟩), inL_wsX10⟩), inL_wsX20⟩), inL_wsX70⟩), inL_wsX50⟩), inL_wsX00⟩), inL_wsX90⟩), inL_wsX40⟩), (fun _ h => absurd h List.not_mem_nil)⟩)
abbrev vwCl : List vw_C := [(RX0, TX0, 5), (RX1, TX1, 2), (RX2, TX2, 4), (RX3, TX3, 13), (RX4, TX4, 6), (RX5, TX5, 3), (RX6, TX6, 3), (RX7, TX7, 4), (RX8, TX8, 2), (RX9, TX9, 5), (RX10, TX10, 13)]
theorem inlX0 : ∀ w ∈ wsX00, w ∈ wsL_law := fun _ h => List.mem_append_left _ (List.mem_append_left _ (List.mem_append_left _ (List.mem_append_right _ h)))
