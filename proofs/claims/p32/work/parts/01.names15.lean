set_option maxRecDepth 20000 in
theorem ggp_L_act_wsL_act_r11 : GoodIn wsL_law wsL_act_r11 := goodIn_r _ [521, 522, 523, 524, 525, 552, 553, 554, 555, 40, 556, 557, 558, 559, 44, 560, 561, 562, 43, 563, 127, 564, 565, 566] (by decide +kernel) (by decide +kernel)
set_option maxRecDepth 20000 in
theorem ggp_L_act_wsL_act_r12 : GoodIn wsL_law wsL_act_r12 := goodIn_r _ [567, 568, 129, 128, 569, 570, 571, 572, 573, 574, 575, 576, 577, 126, 578, 579, 580, 581, 582, 583, 584, 585, 76, 586] (by decide +kernel) (by decide +kernel)
set_option maxRecDepth 20000 in
theorem ggp_L_act_wsL_act_r13 : GoodIn wsL_law wsL_act_r13 := goodIn_r _ [587, 588, 589, 590, 591, 592, 593, 130, 594, 595, 596, 597, 598, 599, 600, 601, 602, 603, 604, 605, 606, 607, 608, 609] (by decide +kernel) (by decide +kernel)
set_option maxRecDepth 20000 in
theorem ggp_L_act_wsL_act_r14 : GoodIn wsL_law wsL_act_r14 := goodIn_r _ [610, 611, 612, 613, 614, 615, 39, 616, 116, 617, 618, 619, 620, 621, 622, 623, 624, 48, 625, 626, 627, 47, 628, 135] (by decide +kernel) (by decide +kernel)
set_option maxRecDepth 20000 in
theorem ggp_L_act_wsL_act_r15 : GoodIn wsL_law wsL_act_r15 := goodIn_r _ [136, 139, 629, 630, 631, 632, 633, 634, 635, 636, 637, 638, 639, 660, 661, 662, 663, 664, 665, 666, 667, 138, 137, 668] (by decide +kernel) (by decide +kernel)
set_option maxRecDepth 20000 in
theorem ggp_L_act_wsL_act_r16 : GoodIn wsL_law wsL_act_r16 := goodIn_r _ [648, 649, 650, 651, 652, 653, 654, 655, 640, 641, 642, 643, 644, 645, 646, 647, 656, 657, 658, 659, 676, 677, 678, 679] (by decide +kernel) (by decide +kernel)
set_option maxRecDepth 20000 in
theorem ggp_L_act_wsL_act_r17 : GoodIn wsL_law wsL_act_r17 := goodIn_r _ [680, 681, 682, 683, 117, 684, 685, 686, 687, 688, 689, 690, 691, 52, 692, 693, 694, 695, 696, 697, 51, 698, 144, 145] (by decide +kernel) (by decide +kernel)
set_option maxRecDepth 20000 in
theorem ggp_L_act_wsL_act_r18 : GoodIn wsL_law wsL_act_r18 := goodIn_r _ [146, 699, 700, 701, 702, 703, 704, 705, 706, 707, 708, 149, 148, 709, 710, 711, 712, 713, 714, 715, 716, 717, 718, 719] (by decide +kernel) (by decide +kernel)
set_option maxRecDepth 20000 in
theorem ggp_L_act_wsL_act_r19 : GoodIn wsL_law wsL_act_r19 := goodIn_r _ [720, 721, 147, 722, 723, 724, 725, 726, 727, 728, 729, 730, 731, 732, 733, 734, 735, 736, 737, 738, 739, 740, 741, 756] (by decide +kernel) (by decide +kernel)
set_option maxRecDepth 20000 in
theorem ggp_L_act_wsL_act_r20 : GoodIn wsL_law wsL_act_r20 := goodIn_r _ [757, 758, 759, 54, 53, 760, 761, 762, 763, 115, 764, 170, 171, 172, 765, 766, 767, 768] (by decide +kernel) (by decide +kernel)
set_option maxRecDepth 20000 in
theorem ggp_L_act_wsX100 : GoodIn wsL_law wsX100 := goodIn_r _ [769, 770, 771, 772, 773, 774, 775, 776, 777, 778, 779, 780, 781] (by decide +kernel) (by decide +kernel)
set_option maxRecDepth 20000 in
theorem ggp_L_act_wsX30 : GoodIn wsL_law wsX30 := goodIn_r _ [787, 788, 789, 790, 791, 792, 793, 794, 795, 796, 797, 798, 799] (by decide +kernel) (by decide +kernel)
set_option maxRecDepth 20000 in
theorem ggp_L_act_wsX10 : GoodIn wsL_law wsX10 := goodIn_r _ [800, 801] (by decide +kernel) (by decide +kernel)
set_option maxRecDepth 20000 in
theorem ggp_L_act_wsX70 : GoodIn wsL_law wsX70 := goodIn_r _ [806, 807, 808, 809] (by decide +kernel) (by decide +kernel)
set_option maxRecDepth 20000 in
theorem ggp_L_act_wsX20 : GoodIn wsL_law wsX20 := goodIn_r _ [802, 803, 804, 805] (by decide +kernel) (by decide +kernel)
set_option maxRecDepth 20000 in
theorem ggp_L_act_wsX50 : GoodIn wsL_law wsX50 := goodIn_r _ [810, 811, 812] (by decide +kernel) (by decide +kernel)
set_option maxRecDepth 20000 in
theorem ggp_L_act_wsX00 : GoodIn wsL_law wsX00 := goodIn_r _ [813, 814, 815, 816, 817] (by decide +kernel) (by decide +kernel)
set_option maxRecDepth 20000 in
theorem ggp_L_act_wsX90 : GoodIn wsL_law wsX90 := goodIn_r _ [818, 819, 820, 821, 822] (by decide +kernel) (by decide +kernel)
set_option maxRecDepth 20000 in
theorem ggp_L_act_wsX40 : GoodIn wsL_law wsX40 := goodIn_r _ [823, 824, 825, 826, 827, 828] (by decide +kernel) (by decide +kernel)
theorem ggtL_act : GoodIn wsL_law ((wsL_act_r1 ++ (wsL_act_r2 ++ (wsL_act_r3 ++ (wsL_act_r4 ++ (wsL_act_r5 ++ (wsL_act_r6 ++ (wsL_act_r7 ++ (wsL_act_r8 ++ (wsL_act_r9 ++ (wsL_act_r10 ++ (wsL_act_r11 ++ (wsL_act_r12 ++ (wsL_act_r13 ++ (wsL_act_r14 ++ (wsL_act_r15 ++ (wsL_act_r16 ++ (wsL_act_r17 ++ (wsL_act_r18 ++ (wsL_act_r19 ++ wsL_act_r20))))))))))))))))))) ++ wsX100 ++ wsX30 ++ wsX10 ++ wsX70 ++ wsX20 ++ wsX50 ++ wsX00 ++ wsX90 ++ wsX40) := (goodIn_app (goodIn_app (goodIn_app (goodIn_app (goodIn_app (goodIn_app (goodIn_app (goodIn_app (goodIn_app (goodIn_app ggp_L_act_wsL_act_r1 (goodIn_app ggp_L_act_wsL_act_r2 (goodIn_app ggp_L_act_wsL_act_r3 (goodIn_app ggp_L_act_wsL_act_r4 (goodIn_app ggp_L_act_wsL_act_r5 (goodIn_app ggp_L_act_wsL_act_r6 (goodIn_app ggp_L_act_wsL_act_r7 (goodIn_app ggp_L_act_wsL_act_r8 (goodIn_app ggp_L_act_wsL_act_r9 (goodIn_app ggp_L_act_wsL_act_r10 (goodIn_app ggp_L_act_wsL_act_r11 (goodIn_app ggp_L_act_wsL_act_r12 (goodIn_app ggp_L_act_wsL_act_r13 (goodIn_app ggp_L_act_wsL_act_r14 (goodIn_app ggp_L_act_wsL_act_r15 (goodIn_app ggp_L_act_wsL_act_r16 (goodIn_app ggp_L_act_wsL_act_r17 (goodIn_app ggp_L_act_wsL_act_r18 (goodIn_app ggp_L_act_wsL_act_r19 ggp_L_act_wsL_act_r20))))))))))))))))))) ggp_L_act_wsX100) ggp_L_act_wsX30) ggp_L_act_wsX10) ggp_L_act_wsX70) ggp_L_act_wsX20) ggp_L_act_wsX50) ggp_L_act_wsX00) ggp_L_act_wsX90) ggp_L_act_wsX40)
set_option maxRecDepth 20000 in
theorem ggL_law_L_act : GoodIn wsL_law wsL_act := fun w hw => (List.mem_cons.mp hw).elim (fun e => e ▸ ⟨(List.mem_append_left _ (List.mem_append_left _ (List.mem_append_left _ (List.mem_append_left _ (List.mem_append_left _ (List.mem_append_left _ (List.mem_append_left _ (List.mem_append_left _ (List.mem_append_left _ (List.mem_append_left _ (List.mem_append_left _ (List.mem_append_left _ (List.mem_append_right _ (List.mem_append_right _ (List.mem_append_right _ (List.mem_append_right _ (List.mem_append_right _ (List.mem_append_right _ (List.mem_append_right _ (List.mem_append_right _ (List.mem_append_right _ (List.mem_append_right _ (List.mem_append_right _ (List.mem_append_right _ (List.mem_append_right _ (List.mem_append_right _ (List.mem_append_right _ (List.mem_append_right _ (List.mem_append_right _ (List.mem_append_right _ (List.mem_append_right _ (List.mem_append_right _ (List.mem_append_right _ (List.mem_append_right _ (List.mem_append_right _ (List.mem_append_right _ (List.mem_append_right _ (List.mem_append_right _ (List.mem_append_right _ (List.mem_append_right _ (List.mem_append_right _ (List.mem_append_right _ (List.mem_append_right _ (List.mem_append_left _ (List.mem_of_getElem? (i := 8) rfl))))))))))))))))))))))))))))))))))))))))))))), good_of_word (by decide +kernel)⟩) (ggtL_act w)
