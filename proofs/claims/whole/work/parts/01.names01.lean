theorem mem_r {big : List Cond} (ws : List Cond) (ps : List Nat) (hp : ws = ps.filterMap (fun i => big[i]?)) : ∀ w ∈ ws, w ∈ big := by
  intro w hw
  rw [hp] at hw
  obtain ⟨i, -, hi⟩ := List.mem_filterMap.mp hw
  exact List.mem_of_getElem? hi
set_option maxRecDepth 20000 in
theorem inL_wsL_law_r1 : ∀ w ∈ wsL_law_r1, w ∈ lw_tbl := mem_r _ [96, 97, 75, 982, 983, 89, 1397, 98, 99, 100, 101, 102, 103, 104, 105, 76, 389, 120, 121, 77, 390, 137, 138, 78] (by decide +kernel)
set_option maxRecDepth 20000 in
theorem inL_wsL_law_r2 : ∀ w ∈ wsL_law_r2, w ∈ lw_tbl := mem_r _ [391, 392, 193, 194, 79, 393, 206, 207, 80, 394, 227, 228, 81, 395, 256, 257, 83, 396, 277, 278, 85, 397, 299, 300] (by decide +kernel)
set_option maxRecDepth 20000 in
theorem inL_wsL_law_r3 : ∀ w ∈ wsL_law_r3, w ∈ lw_tbl := mem_r _ [86, 398, 321, 322, 87, 399, 400, 401, 107, 108, 109, 119, 110, 111, 122, 123, 124, 125, 136, 127, 128, 126, 140, 141] (by decide +kernel)
set_option maxRecDepth 20000 in
theorem inL_wsL_law_r4 : ∀ w ∈ wsL_law_r4, w ∈ lw_tbl := mem_r _ [142, 157, 158, 159, 160, 161, 162, 164, 165, 195, 196, 197, 198, 200, 199, 208, 209, 210, 211, 226, 214, 215, 212, 213] (by decide +kernel)
set_option maxRecDepth 20000 in
theorem inL_wsL_law_r5 : ∀ w ∈ wsL_law_r5, w ∈ lw_tbl := mem_r _ [229, 230, 231, 232, 243, 244, 245, 242, 234, 235, 236, 237, 82, 238, 239, 240, 241, 258, 259, 260, 261, 265, 268, 269] (by decide +kernel)
set_option maxRecDepth 20000 in
theorem inL_wsL_law_r6 : ∀ w ∈ wsL_law_r6, w ∈ lw_tbl := mem_r _ [262, 263, 84, 264, 279, 280, 281, 282, 285, 286, 287, 283, 284, 301, 302, 303, 304, 306, 307, 308, 309, 305, 323, 324] (by decide +kernel)
set_option maxRecDepth 20000 in
theorem inL_wsL_law_r7 : ∀ w ∈ wsL_law_r7, w ∈ lw_tbl := mem_r _ [325, 326, 328, 329, 330, 331, 332, 327, 347, 348, 349, 350, 356, 351, 352, 353, 354, 143, 147, 148, 149, 153, 355, 358] (by decide +kernel)
set_option maxRecDepth 20000 in
theorem inL_wsL_law_r8 : ∀ w ∈ wsL_law_r8, w ∈ lw_tbl := mem_r _ [360, 0, 361, 362, 364, 363, 88, 365, 366, 367, 368, 369, 370, 371, 372, 373, 375, 1, 376, 377, 378, 379, 380, 381] (by decide +kernel)
set_option maxRecDepth 20000 in
theorem inL_wsL_law_r9 : ∀ w ∈ wsL_law_r9, w ∈ lw_tbl := mem_r _ [382, 383, 384, 385, 386, 387, 388, 984, 985, 986, 987, 993, 994, 995, 996, 997, 998, 999, 1000, 1001, 1002, 1003, 1004, 1005] (by decide +kernel)
set_option maxRecDepth 20000 in
theorem inL_wsL_law_r10 : ∀ w ∈ wsL_law_r10, w ∈ lw_tbl := mem_r _ [1006, 1009, 1010, 1011, 1012, 1013, 1014, 1015, 988, 990, 33, 991, 429, 430, 431, 432, 433, 434, 435, 436, 437, 438, 439, 1065] (by decide +kernel)
set_option maxRecDepth 20000 in
theorem inL_wsL_law_r11 : ∀ w ∈ wsL_law_r11, w ∈ lw_tbl := mem_r _ [1066, 1067, 1068, 1069, 992, 1073, 1070, 1071, 1072, 440, 441, 442, 443, 444, 445, 446, 447, 1074, 1075, 1076, 1077, 448, 449, 450] (by decide +kernel)
set_option maxRecDepth 20000 in
theorem inL_wsL_law_r12 : ∀ w ∈ wsL_law_r12, w ∈ lw_tbl := mem_r _ [451, 452, 453, 454, 455, 456, 457, 459, 2, 460, 550, 557, 559, 462, 463, 464, 465, 466, 467, 468, 90, 469, 470, 471] (by decide +kernel)
set_option maxRecDepth 20000 in
theorem inL_wsL_law_r13 : ∀ w ∈ wsL_law_r13, w ∈ lw_tbl := mem_r _ [472, 473, 1399, 474, 475, 476, 477, 478, 1398, 480, 481, 482, 483, 484, 485, 486, 487, 488, 489, 91, 490, 494, 495, 496] (by decide +kernel)
set_option maxRecDepth 20000 in
theorem inL_wsL_law_r14 : ∀ w ∈ wsL_law_r14, w ∈ lw_tbl := mem_r _ [497, 491, 492, 493, 498, 499, 500, 501, 502, 92, 503, 504, 505, 506, 507, 508, 509, 510, 511, 512, 513, 514, 515, 516] (by decide +kernel)
set_option maxRecDepth 20000 in
theorem inL_wsL_law_r15 : ∀ w ∈ wsL_law_r15, w ∈ lw_tbl := mem_r _ [517, 518, 519, 521, 522, 93, 523, 524, 525, 526, 527, 528, 529, 530, 532, 534, 536, 537, 538, 539, 540, 94, 541, 542] (by decide +kernel)
set_option maxRecDepth 20000 in
theorem inL_wsL_law_r16 : ∀ w ∈ wsL_law_r16, w ∈ lw_tbl := mem_r _ [543, 544, 545, 546, 547, 548, 549, 552, 554, 3, 555, 561, 562, 563, 564, 565, 567, 4, 568, 569, 571, 5, 572, 1078] (by decide +kernel)
set_option maxRecDepth 20000 in
theorem inL_wsL_law_r17 : ∀ w ∈ wsL_law_r17, w ∈ lw_tbl := mem_r _ [1079, 1080, 1081, 1082, 1084, 34, 1085, 1008, 1086, 1088, 35, 1089, 1101, 1090, 1092, 36, 1093, 1094, 1096, 37, 1097, 1098, 1099, 1100] (by decide +kernel)
set_option maxRecDepth 20000 in
theorem inL_wsL_law_r18 : ∀ w ∈ wsL_law_r18, w ∈ lw_tbl := mem_r _ [1102, 1104, 38, 1105, 1106, 1107, 1109, 39, 1110, 1111, 1113, 40, 1114, 573, 574, 575, 576, 577, 578, 579, 580, 581, 1115, 1116] (by decide +kernel)
set_option maxRecDepth 20000 in
theorem inL_wsL_law_r19 : ∀ w ∈ wsL_law_r19, w ∈ lw_tbl := mem_r _ [1117, 1118, 1007, 582, 583, 584, 585, 586, 1119, 1120, 1121, 1122, 1123, 1124, 1126, 41, 1127, 1128, 1129, 1130, 587, 588, 589, 590] (by decide +kernel)
set_option maxRecDepth 20000 in
theorem inL_wsL_law_r20 : ∀ w ∈ wsL_law_r20, w ∈ lw_tbl := mem_r _ [591, 593, 6, 594, 595, 597, 7, 598, 599, 600, 601, 602, 1131, 1132, 1133, 1134, 1135, 1137, 42, 1138, 1139, 1141, 43, 1142] (by decide +kernel)
set_option maxRecDepth 20000 in
theorem inL_wsL_law_r21 : ∀ w ∈ wsL_law_r21, w ∈ lw_tbl := mem_r _ [1143, 1145, 44, 1146, 603, 604, 605, 606, 611, 607, 608, 609, 610, 1147, 1148, 1149, 1150, 1155, 1151, 1153, 45, 1154, 612, 613] (by decide +kernel)
set_option maxRecDepth 20000 in
theorem inL_wsL_law_r22 : ∀ w ∈ wsL_law_r22, w ∈ lw_tbl := mem_r _ [614, 615, 616, 617, 618, 619, 620, 1156, 1157, 1158, 1159, 1160, 1162, 46, 1163, 621, 622, 623, 624, 625, 626, 627, 628, 629] (by decide +kernel)
set_option maxRecDepth 20000 in
theorem inL_wsL_law_r23 : ∀ w ∈ wsL_law_r23, w ∈ lw_tbl := mem_r _ [630, 631, 632, 634, 635, 637, 638, 639, 640, 641, 642, 643, 644, 645, 646, 648, 8, 649, 1164, 1165, 1166, 1167, 1168, 1169] (by decide +kernel)
set_option maxRecDepth 20000 in
theorem inL_wsL_law_r24 : ∀ w ∈ wsL_law_r24, w ∈ lw_tbl := mem_r _ [1170, 1171, 1173, 47, 1174, 1175, 1176, 1177, 1178, 1180, 48, 1181, 1182, 1184, 49, 1185, 650, 651, 652, 653, 654, 655, 656, 657] (by decide +kernel)
set_option maxRecDepth 20000 in
theorem inL_wsL_law_r25 : ∀ w ∈ wsL_law_r25, w ∈ lw_tbl := mem_r _ [658, 659, 660, 661, 662, 1186, 1187, 1188, 1189, 1190, 1192, 50, 1193, 1194, 1196, 51, 1197, 663, 664, 665, 666, 667, 668, 669] (by decide +kernel)
set_option maxRecDepth 20000 in
theorem inL_wsL_law_r26 : ∀ w ∈ wsL_law_r26, w ∈ lw_tbl := mem_r _ [670, 671, 1198, 1199, 1200, 1201, 1202, 1203, 1205, 52, 1206, 672, 673, 674, 675, 676, 678, 9, 679, 680, 681, 682, 683, 684] (by decide +kernel)
set_option maxRecDepth 20000 in
theorem inL_wsL_law_r27 : ∀ w ∈ wsL_law_r27, w ∈ lw_tbl := mem_r _ [685, 686, 687, 688, 689, 1207, 1208, 1209, 1210, 1211, 1213, 53, 1214, 1215, 1216, 1217, 1218, 1219, 1220, 1221, 1222, 1223, 690, 691] (by decide +kernel)
set_option maxRecDepth 20000 in
theorem inL_wsL_law_r28 : ∀ w ∈ wsL_law_r28, w ∈ lw_tbl := mem_r _ [692, 693, 694, 695, 696, 697, 698, 699, 1224, 1225, 1226, 1227, 700, 701, 702, 703, 704, 705, 706, 707, 708, 709, 710, 711] (by decide +kernel)
set_option maxRecDepth 20000 in
theorem inL_wsL_law_r29 : ∀ w ∈ wsL_law_r29, w ∈ lw_tbl := mem_r _ [712, 713, 714, 715, 1228, 1229, 1230, 1231, 716, 717, 718, 719, 720, 721, 722, 723, 724, 725, 726, 727, 728, 730, 10, 731] (by decide +kernel)
set_option maxRecDepth 20000 in
theorem inL_wsL_law_r30 : ∀ w ∈ wsL_law_r30, w ∈ lw_tbl := mem_r _ [732, 733, 734, 735, 736, 737, 738, 744, 739, 741, 11, 742, 743, 1232, 1233, 1234, 1235, 1236, 1237, 1239, 54, 1240, 1241, 1243] (by decide +kernel)
set_option maxRecDepth 20000 in
theorem inL_wsL_law_r31 : ∀ w ∈ wsL_law_r31, w ∈ lw_tbl := mem_r _ [55, 1244, 1245, 1246, 1247, 1248, 1249, 1250, 745, 746, 747, 748, 749, 750, 751, 752, 753, 755, 12, 756, 757, 758, 759, 760] (by decide +kernel)
set_option maxRecDepth 20000 in
theorem inL_wsL_law_r32 : ∀ w ∈ wsL_law_r32, w ∈ lw_tbl := mem_r _ [762, 13, 763, 764, 765, 95, 766, 767, 768, 769, 1251, 1252, 1253, 1254, 1255, 1256, 1258, 56, 1259, 770, 771, 772, 773, 1260] (by decide +kernel)
set_option maxRecDepth 20000 in
theorem inL_wsL_law_r33 : ∀ w ∈ wsL_law_r33, w ∈ lw_tbl := mem_r _ [1261, 1262, 1263, 774, 775, 776, 777, 778, 779, 780, 781, 823, 782, 784, 14, 785, 786, 788, 15, 789, 790, 791, 793, 16] (by decide +kernel)
set_option maxRecDepth 20000 in
theorem inL_wsL_law_r34 : ∀ w ∈ wsL_law_r34, w ∈ lw_tbl := mem_r _ [794, 795, 797, 17, 798, 799, 800, 801, 802, 803, 805, 18, 806, 807, 809, 19, 810, 811, 813, 20, 814, 815, 817, 21] (by decide +kernel)
set_option maxRecDepth 20000 in
theorem inL_wsL_law_r35 : ∀ w ∈ wsL_law_r35, w ∈ lw_tbl := mem_r _ [818, 819, 821, 22, 822, 1264, 1265, 1266, 1267, 1268, 1270, 57, 1271, 1272, 1274, 58, 1275, 1276, 1278, 59, 1279, 1280, 1282, 60] (by decide +kernel)
set_option maxRecDepth 20000 in
theorem inL_wsL_law_r36 : ∀ w ∈ wsL_law_r36, w ∈ lw_tbl := mem_r _ [1283, 1284, 1286, 61, 1287, 1288, 1290, 62, 1291, 824, 825, 826, 827, 828, 829, 830, 831, 832, 833, 834, 835, 836, 837, 838] (by decide +kernel)
set_option maxRecDepth 20000 in
theorem inL_wsL_law_r37 : ∀ w ∈ wsL_law_r37, w ∈ lw_tbl := mem_r _ [1292, 1293, 1294, 1295, 1299, 1300, 1301, 1296, 1297, 1298, 1302, 1304, 63, 1305, 839, 840, 841, 842, 843, 844, 845, 846, 847, 848] (by decide +kernel)
set_option maxRecDepth 20000 in
theorem inL_wsL_law_r38 : ∀ w ∈ wsL_law_r38, w ∈ lw_tbl := mem_r _ [849, 850, 851, 852, 853, 855, 857, 23, 858, 1306, 1307, 1308, 1309, 1310, 1312, 64, 1313, 859, 860, 861, 862, 863, 864, 865] (by decide +kernel)
set_option maxRecDepth 20000 in
theorem inL_wsL_law_r39 : ∀ w ∈ wsL_law_r39, w ∈ lw_tbl := mem_r _ [866, 867, 869, 24, 870, 871, 873, 25, 874, 875, 877, 26, 878, 1314, 1315, 1316, 1317, 879, 880, 881, 882, 883, 884, 885] (by decide +kernel)
set_option maxRecDepth 20000 in
theorem inL_wsL_law_r40 : ∀ w ∈ wsL_law_r40, w ∈ lw_tbl := mem_r _ [886, 887, 1318, 1319, 1320, 1321, 1322, 1324, 65, 1325, 888, 889, 890, 891, 892, 893, 894, 1326, 1327, 1328, 1329, 1330, 1331, 1332] (by decide +kernel)
set_option maxRecDepth 20000 in
theorem inL_wsL_law_r41 : ∀ w ∈ wsL_law_r41, w ∈ lw_tbl := mem_r _ [1333, 895, 896, 897, 898, 899, 900, 901, 902, 903, 904, 905, 906, 1334, 1335, 1336, 1337, 1338, 907, 908, 909, 910, 911, 912] (by decide +kernel)
set_option maxRecDepth 20000 in
theorem inL_wsL_law_r42 : ∀ w ∈ wsL_law_r42, w ∈ lw_tbl := mem_r _ [913, 914, 915, 916, 917, 918, 920, 27, 921, 922, 923, 924, 926, 28, 927, 928, 929, 930, 931, 932, 934, 29, 935, 936] (by decide +kernel)
set_option maxRecDepth 20000 in
theorem inL_wsL_law_r43 : ∀ w ∈ wsL_law_r43, w ∈ lw_tbl := mem_r _ [937, 939, 30, 940, 941, 943, 31, 944, 945, 946, 947, 948, 1339, 1340, 1341, 1342, 1343, 1344, 1345, 1346, 1347, 1349, 66, 1350] (by decide +kernel)
set_option maxRecDepth 20000 in
theorem inL_wsL_law_r44 : ∀ w ∈ wsL_law_r44, w ∈ lw_tbl := mem_r _ [1351, 1352, 1353, 1355, 67, 1356, 1357, 1359, 68, 1360, 1361, 1363, 69, 1364, 1365, 1367, 70, 1368, 949, 950, 951, 952, 953, 954] (by decide +kernel)
set_option maxRecDepth 20000 in
theorem inL_wsL_law_r45 : ∀ w ∈ wsL_law_r45, w ∈ lw_tbl := mem_r _ [955, 956, 957, 959, 32, 960, 1369, 1370, 1371, 1372, 1373, 1375, 71, 1376, 1377, 1379, 72, 1380, 961, 962, 963, 964, 965, 966] (by decide +kernel)
set_option maxRecDepth 20000 in
theorem inL_wsL_law_r46 : ∀ w ∈ wsL_law_r46, w ∈ lw_tbl := mem_r _ [967, 968, 969, 1381, 1382, 1383, 1384, 1385, 1387, 73, 1388, 970, 971, 972, 973, 1389, 1390, 1391, 1392, 974, 975, 976, 977, 978] (by decide +kernel)
set_option maxRecDepth 20000 in
theorem inL_wsL_law_r47 : ∀ w ∈ wsL_law_r47, w ∈ lw_tbl := mem_r _ [979, 980, 981, 1393, 1394, 1395, 1396] (by decide +kernel)
set_option maxRecDepth 20000 in
theorem inL_wsX100 : ∀ w ∈ wsX100, w ∈ lw_tbl := mem_r _ [402, 404, 406, 408, 410, 412, 414, 416, 418, 420, 422, 424, 426] (by decide +kernel)
set_option maxRecDepth 20000 in
theorem inL_wsX110 : ∀ w ∈ wsX110, w ∈ lw_tbl := mem_r _ [1016, 1018, 1020, 1022, 1024, 1026, 1028, 1030, 1032, 1034, 1036, 1038, 1040, 1042, 1044, 1046, 1048, 1050, 1052, 1054, 1056, 1058, 1060, 1062] (by decide +kernel)
set_option maxRecDepth 20000 in
theorem inL_wsX80 : ∀ w ∈ wsX80, w ∈ lw_tbl := mem_r _ [114, 116] (by decide +kernel)
set_option maxRecDepth 20000 in
theorem inL_wsX60 : ∀ w ∈ wsX60, w ∈ lw_tbl := mem_r _ [129, 131, 133] (by decide +kernel)
set_option maxRecDepth 20000 in
theorem inL_wsX30 : ∀ w ∈ wsX30, w ∈ lw_tbl := mem_r _ [166, 168, 170, 172, 174, 176, 178, 180, 182, 184, 186, 188, 190] (by decide +kernel)
set_option maxRecDepth 20000 in
theorem inL_wsX10 : ∀ w ∈ wsX10, w ∈ lw_tbl := mem_r _ [201, 203] (by decide +kernel)
set_option maxRecDepth 20000 in
theorem inL_wsX20 : ∀ w ∈ wsX20, w ∈ lw_tbl := mem_r _ [217, 219, 221, 223] (by decide +kernel)
set_option maxRecDepth 20000 in
theorem inL_wsX70 : ∀ w ∈ wsX70, w ∈ lw_tbl := mem_r _ [247, 249, 251, 253] (by decide +kernel)
set_option maxRecDepth 20000 in
theorem inL_wsX50 : ∀ w ∈ wsX50, w ∈ lw_tbl := mem_r _ [270, 272, 274] (by decide +kernel)
set_option maxRecDepth 20000 in
theorem inL_wsX00 : ∀ w ∈ wsX00, w ∈ lw_tbl := mem_r _ [288, 290, 292, 294, 296] (by decide +kernel)
set_option maxRecDepth 20000 in
theorem inL_wsX90 : ∀ w ∈ wsX90, w ∈ lw_tbl := mem_r _ [310, 312, 314, 316, 318] (by decide +kernel)
set_option maxRecDepth 20000 in
theorem inL_wsX40 : ∀ w ∈ wsX40, w ∈ lw_tbl := mem_r _ [333, 335, 337, 339, 341, 343] (by decide +kernel)
set_option maxRecDepth 20000 in
theorem wsL_law_in : ∀ w ∈ wsL_law, w ∈ lw_tbl := (List.forall_mem_append.mpr ⟨(List.forall_mem_append.mpr ⟨(List.forall_mem_append.mpr ⟨(List.forall_mem_append.mpr ⟨(List.forall_mem_append.mpr ⟨(List.forall_mem_append.mpr ⟨(List.forall_mem_append.mpr ⟨(List.forall_mem_append.mpr ⟨(List.forall_mem_append.mpr ⟨(List.forall_mem_append.mpr ⟨(List.forall_mem_append.mpr ⟨(List.forall_mem_append.mpr ⟨(List.forall_mem_append.mpr ⟨(List.forall_mem_append.mpr ⟨inL_wsL_law_r1, (List.forall_mem_append.mpr ⟨inL_wsL_law_r2, (List.forall_mem_append.mpr ⟨inL_wsL_law_r3, (List.forall_mem_append.mpr ⟨inL_wsL_law_r4, (List.forall_mem_append.mpr ⟨inL_wsL_law_r5, (List.forall_mem_append.mpr ⟨inL_wsL_law_r6, (List.forall_mem_append.mpr ⟨inL_wsL_law_r7, (List.forall_mem_append.mpr ⟨inL_wsL_law_r8, (List.forall_mem_append.mpr ⟨inL_wsL_law_r9, (List.forall_mem_append.mpr ⟨inL_wsL_law_r10, (List.forall_mem_append.mpr ⟨inL_wsL_law_r11, (List.forall_mem_append.mpr ⟨inL_wsL_law_r12, (List.forall_mem_append.mpr ⟨inL_wsL_law_r13, (List.forall_mem_append.mpr ⟨inL_wsL_law_r14, (List.forall_mem_append.mpr ⟨inL_wsL_law_r15, (List.forall_mem_append.mpr ⟨inL_wsL_law_r16, (List.forall_mem_append.mpr ⟨inL_wsL_law_r17, (List.forall_mem_append.mpr ⟨inL_wsL_law_r18, (List.forall_mem_append.mpr ⟨inL_wsL_law_r19, (List.forall_mem_append.mpr ⟨inL_wsL_law_r20, (List.forall_mem_append.mpr ⟨inL_wsL_law_r21, (List.forall_mem_append.mpr ⟨inL_wsL_law_r22, (List.forall_mem_append.mpr ⟨inL_wsL_law_r23, (List.forall_mem_append.mpr ⟨inL_wsL_law_r24, (List.forall_mem_append.mpr ⟨inL_wsL_law_r25, (List.forall_mem_append.mpr ⟨inL_wsL_law_r26, (List.forall_mem_append.mpr ⟨inL_wsL_law_r27, (List.forall_mem_append.mpr ⟨inL_wsL_law_r28, (List.forall_mem_append.mpr ⟨inL_wsL_law_r29, (List.forall_mem_append.mpr ⟨inL_wsL_law_r30, (List.forall_mem_append.mpr ⟨inL_wsL_law_r31, (List.forall_mem_append.mpr ⟨inL_wsL_law_r32, (List.forall_mem_append.mpr ⟨inL_wsL_law_r33, (List.forall_mem_append.mpr ⟨inL_wsL_law_r34, (List.forall_mem_append.mpr ⟨inL_wsL_law_r35, (List.forall_mem_append.mpr ⟨inL_wsL_law_r36, (List.forall_mem_append.mpr ⟨inL_wsL_law_r37, (List.forall_mem_append.mpr ⟨inL_wsL_law_r38, (List.forall_mem_append.mpr ⟨inL_wsL_law_r39, (List.forall_mem_append.mpr ⟨inL_wsL_law_r40, (List.forall_mem_append.mpr ⟨inL_wsL_law_r41, (List.forall_mem_append.mpr ⟨inL_wsL_law_r42, (List.forall_mem_append.mpr ⟨inL_wsL_law_r43, (List.forall_mem_append.mpr ⟨inL_wsL_law_r44, (List.forall_mem_append.mpr ⟨inL_wsL_law_r45, (List.forall_mem_append.mpr ⟨inL_wsL_law_r46, inL_wsL_law_r47⟩)⟩)⟩)⟩)⟩)⟩)⟩)⟩)⟩)⟩)⟩)⟩)⟩)⟩)⟩)⟩)⟩)⟩)⟩)⟩)⟩)⟩)⟩)⟩)⟩)⟩)⟩)⟩)⟩)⟩)⟩)⟩)⟩)⟩)⟩)⟩)⟩)⟩)⟩)⟩)⟩)⟩)⟩)⟩)⟩)⟩), inL_wsX100⟩), inL_wsX110⟩), inL_wsX80⟩), inL_wsX60⟩), inL_wsX30⟩), inL_wsX10⟩), inL_wsX20⟩), inL_wsX70⟩), inL_wsX50⟩), inL_wsX00⟩), inL_wsX90⟩), inL_wsX40⟩), (fun _ h => absurd h List.not_mem_nil)⟩)
abbrev vwCl : List vw_C := [(RX0, TX0, 5), (RX1, TX1, 2), (RX2, TX2, 4), (RX3, TX3, 13), (RX4, TX4, 6), (RX5, TX5, 3), (RX6, TX6, 3), (RX7, TX7, 4), (RX8, TX8, 2), (RX9, TX9, 5), (RX10, TX10, 13), (RX11, TX11, 24)]
theorem inlX0 : ∀ w ∈ wsX00, w ∈ wsL_law := fun _ h => List.mem_append_left _ (List.mem_append_left _ (List.mem_append_left _ (List.mem_append_right _ h)))
