theorem in_by {big : List Cond} (ws : List Cond) (ps : List Nat) (hp : ws = ps.filterMap (fun i => big[i]?)) : ∀ w ∈ ws, w ∈ big := by
  intro w hw
  rw [hp] at hw
  obtain ⟨i, -, hi⟩ := List.mem_filterMap.mp hw
  exact List.mem_of_getElem? hi
set_option maxRecDepth 100000 in
theorem in_wsL_law_r1 : ∀ w ∈ wsL_law_r1, w ∈ lw_tbl := in_by _ [90, 91, 74, 914, 915, 84, 92, 93, 94, 95, 96, 97, 98, 99, 75, 379, 380, 136, 388, 389, 138, 139, 76, 381] rfl
set_option maxRecDepth 100000 in
theorem in_wsL_law_r2 : ∀ w ∈ wsL_law_r2, w ∈ lw_tbl := in_by _ [241, 242, 79, 382, 287, 288, 81, 383, 336, 337, 82, 384, 354, 355, 83, 385, 386, 387, 390, 100, 101, 102, 103, 113] rfl
set_option maxRecDepth 100000 in
theorem in_wsL_law_r3 : ∀ w ∈ wsL_law_r3, w ∈ lw_tbl := in_by _ [115, 117, 119, 140, 141, 142, 143, 144, 145, 77, 229, 175, 176, 78, 233, 146, 147, 148, 149, 154, 158, 162, 177, 178] rfl
set_option maxRecDepth 100000 in
theorem in_wsL_law_r4 : ∀ w ∈ wsL_law_r4, w ∈ lw_tbl := in_by _ [179, 180, 181, 186, 189, 192, 226, 194, 197, 199, 200, 227, 201, 202, 243, 244, 245, 246, 228, 263, 232, 264, 268, 269] rfl
set_option maxRecDepth 100000 in
theorem in_wsL_law_r5 : ∀ w ∈ wsL_law_r5, w ∈ lw_tbl := in_by _ [270, 247, 248, 80, 271, 249, 250, 251, 252, 255, 289, 290, 291, 292, 294, 296, 298, 300, 301, 302, 303, 304, 305, 306] rfl
set_option maxRecDepth 100000 in
theorem in_wsL_law_r6 : ∀ w ∈ wsL_law_r6, w ∈ lw_tbl := in_by _ [307, 308, 338, 339, 340, 341, 344, 342, 345, 346, 343, 356, 357, 358, 359, 361, 362, 363, 364, 365, 916, 917, 918, 919] rfl
set_option maxRecDepth 100000 in
theorem in_wsL_law_r7 : ∀ w ∈ wsL_law_r7, w ∈ lw_tbl := in_by _ [920, 921, 85, 1000, 1002, 1003, 1004, 1006, 1007, 1008, 1009, 1010, 1012, 1014, 1015, 1016, 987, 988, 86, 1017, 1018, 1019, 1020, 1021] rfl
set_option maxRecDepth 100000 in
theorem in_wsL_law_r8 : ∀ w ∈ wsL_law_r8, w ∈ lw_tbl := in_by _ [1022, 1024, 1025, 1026, 1027, 1028, 1029, 1030, 1031, 923, 924, 925, 933, 934, 935, 936, 939, 941, 943, 947, 949, 951, 990, 991] rfl
set_option maxRecDepth 100000 in
theorem in_wsL_law_r9 : ∀ w ∈ wsL_law_r9, w ∈ lw_tbl := in_by _ [992, 993, 416, 417, 418, 419, 266, 420, 422, 0, 423, 424, 425, 426, 427, 428, 429, 430, 104, 107, 111, 431, 432, 433] rfl
set_option maxRecDepth 100000 in
theorem in_wsL_law_r10 : ∀ w ∈ wsL_law_r10, w ∈ lw_tbl := in_by _ [434, 435, 437, 1, 438, 439, 440, 441, 442, 443, 444, 445, 446, 150, 110, 114, 116, 118, 120, 447, 449, 2, 450, 452] rfl
set_option maxRecDepth 100000 in
theorem in_wsL_law_r11 : ∀ w ∈ wsL_law_r11, w ∈ lw_tbl := in_by _ [453, 454, 455, 456, 457, 458, 459, 460, 461, 462, 464, 3, 465, 466, 468, 4, 469, 470, 471, 472, 473, 151, 112, 474] rfl
set_option maxRecDepth 100000 in
theorem in_wsL_law_r12 : ∀ w ∈ wsL_law_r12, w ∈ lw_tbl := in_by _ [476, 5, 477, 478, 479, 480, 481, 482, 483, 484, 485, 486, 87, 487, 488, 489, 490, 491, 493, 6, 494, 495, 497, 7] rfl
set_option maxRecDepth 100000 in
theorem in_wsL_law_r13 : ∀ w ∈ wsL_law_r13, w ∈ lw_tbl := in_by _ [498, 185, 499, 501, 8, 502, 503, 505, 9, 506, 511, 507, 508, 509, 510, 512, 514, 10, 515, 516, 518, 11, 519, 520] rfl
set_option maxRecDepth 100000 in
theorem in_wsL_law_r14 : ∀ w ∈ wsL_law_r14, w ∈ lw_tbl := in_by _ [521, 522, 523, 524, 526, 12, 527, 528, 530, 13, 531, 532, 533, 534, 535, 182, 195, 267, 536, 538, 14, 539, 198, 155] rfl
set_option maxRecDepth 100000 in
theorem in_wsL_law_r15 : ∀ w ∈ wsL_law_r15, w ∈ lw_tbl := in_by _ [190, 540, 542, 15, 543, 544, 545, 546, 547, 548, 550, 16, 551, 552, 553, 554, 555, 556, 557, 88, 558, 559, 560, 561] rfl
set_option maxRecDepth 100000 in
theorem in_wsL_law_r16 : ∀ w ∈ wsL_law_r16, w ∈ lw_tbl := in_by _ [562, 265, 293, 563, 564, 565, 566, 567, 568, 569, 570, 571, 572, 573, 574, 193, 575, 577, 17, 578, 1097, 1098, 1099, 1100] rfl
set_option maxRecDepth 100000 in
theorem in_wsL_law_r17 : ∀ w ∈ wsL_law_r17, w ∈ lw_tbl := in_by _ [1001, 1005, 1101, 1103, 38, 1104, 1105, 1107, 39, 1108, 1109, 1110, 1111, 1112, 930, 926, 928, 932, 937, 945, 1113, 1114, 1115, 1116] rfl
set_option maxRecDepth 100000 in
theorem in_wsL_law_r18 : ∀ w ∈ wsL_law_r18, w ∈ lw_tbl := in_by _ [1117, 1119, 40, 1120, 1127, 1122, 1123, 1124, 1125, 1126, 1128, 1130, 41, 1131, 1132, 1133, 1134, 1135, 1137, 42, 1138, 1139, 1141, 43] rfl
set_option maxRecDepth 100000 in
theorem in_wsL_law_r19 : ∀ w ∈ wsL_law_r19, w ∈ lw_tbl := in_by _ [1142, 1143, 1145, 44, 1146, 1147, 1148, 1149, 1150, 1151, 1153, 45, 1154, 1155, 1157, 46, 1158, 1159, 1160, 1161, 1162, 1163, 1165, 47] rfl
set_option maxRecDepth 100000 in
theorem in_wsL_law_r20 : ∀ w ∈ wsL_law_r20, w ∈ lw_tbl := in_by _ [1166, 1167, 1169, 48, 1170, 1171, 1173, 49, 1174, 1175, 1177, 50, 1178, 1179, 1181, 51, 1182, 1183, 1185, 52, 1186, 1187, 1189, 53] rfl
set_option maxRecDepth 100000 in
theorem in_wsL_law_r21 : ∀ w ∈ wsL_law_r21, w ∈ lw_tbl := in_by _ [1190, 1191, 1193, 54, 1194, 1195, 1196, 1197, 1198, 1200, 55, 1201, 1011, 1013, 579, 580, 581, 582, 583, 584, 585, 586, 587, 588] rfl
set_option maxRecDepth 100000 in
theorem in_wsL_law_r22 : ∀ w ∈ wsL_law_r22, w ∈ lw_tbl := in_by _ [589, 590, 591, 592, 593, 594, 595, 1202, 1203, 1204, 1205, 1206, 1208, 56, 1209, 1210, 596, 597, 598, 599, 600, 601, 602, 603] rfl
set_option maxRecDepth 100000 in
theorem in_wsL_law_r23 : ∀ w ∈ wsL_law_r23, w ∈ lw_tbl := in_by _ [1211, 1212, 1213, 1214, 604, 605, 606, 607, 106, 109, 231, 153, 235, 184, 608, 609, 610, 611, 1215, 1216, 1217, 1218, 612, 613] rfl
set_option maxRecDepth 100000 in
theorem in_wsL_law_r24 : ∀ w ∈ wsL_law_r24, w ∈ lw_tbl := in_by _ [614, 615, 157, 164, 160, 616, 618, 18, 619, 620, 621, 622, 623, 624, 625, 626, 627, 628, 629, 630, 631, 632, 1219, 1220] rfl
set_option maxRecDepth 100000 in
theorem in_wsL_law_r25 : ∀ w ∈ wsL_law_r25, w ∈ lw_tbl := in_by _ [1221, 1222, 1223, 1225, 57, 1226, 1227, 1228, 633, 634, 635, 636, 196, 637, 1229, 1230, 1231, 1232, 1233, 638, 639, 640, 641, 642] rfl
set_option maxRecDepth 100000 in
theorem in_wsL_law_r26 : ∀ w ∈ wsL_law_r26, w ∈ lw_tbl := in_by _ [644, 19, 645, 646, 647, 648, 649, 650, 187, 1234, 1235, 1236, 1237, 1238, 1240, 58, 1241, 1242, 1244, 59, 1245, 651, 652, 653] rfl
set_option maxRecDepth 100000 in
theorem in_wsL_law_r27 : ∀ w ∈ wsL_law_r27, w ∈ lw_tbl := in_by _ [654, 295, 297, 299, 655, 656, 657, 658, 165, 664, 659, 660, 661, 662, 663, 665, 666, 667, 668, 161, 669, 670, 671, 672] rfl
set_option maxRecDepth 100000 in
theorem in_wsL_law_r28 : ∀ w ∈ wsL_law_r28, w ∈ lw_tbl := in_by _ [676, 673, 674, 675, 677, 678, 679, 680, 681, 682, 683, 684, 685, 686, 687, 688, 689, 690, 691, 1246, 1247, 1248, 1249, 1250] rfl
set_option maxRecDepth 100000 in
theorem in_wsL_law_r29 : ∀ w ∈ wsL_law_r29, w ∈ lw_tbl := in_by _ [1252, 60, 1253, 1254, 1255, 1256, 1258, 61, 1259, 1260, 1262, 62, 1263, 1264, 1266, 63, 1267, 692, 693, 694, 695, 696, 697, 698] rfl
set_option maxRecDepth 100000 in
theorem in_wsL_law_r30 : ∀ w ∈ wsL_law_r30, w ∈ lw_tbl := in_by _ [699, 704, 700, 701, 702, 703, 253, 254, 705, 706, 707, 708, 709, 710, 87, 711, 712, 713, 714, 715, 716, 717, 718, 1268] rfl
set_option maxRecDepth 100000 in
theorem in_wsL_law_r31 : ∀ w ∈ wsL_law_r31, w ∈ lw_tbl := in_by _ [1269, 1270, 1271, 1299, 1300, 1301, 1272, 1273, 1274, 1275, 994, 1276, 1277, 1278, 1279, 1280, 1281, 1283, 64, 1284, 1285, 1286, 1287, 1288] rfl
set_option maxRecDepth 100000 in
theorem in_wsL_law_r32 : ∀ w ∈ wsL_law_r32, w ∈ lw_tbl := in_by _ [1289, 1290, 1291, 1292, 1293, 1294, 1295, 1296, 1297, 1298, 1302, 1303, 1304, 1305, 719, 720, 721, 722, 1306, 1307, 1308, 1309, 723, 724] rfl
set_option maxRecDepth 100000 in
theorem in_wsL_law_r33 : ∀ w ∈ wsL_law_r33, w ∈ lw_tbl := in_by _ [725, 726, 727, 728, 729, 730, 731, 732, 734, 20, 735, 736, 737, 738, 740, 21, 741, 742, 744, 22, 745, 746, 747, 748] rfl
set_option maxRecDepth 100000 in
theorem in_wsL_law_r34 : ∀ w ∈ wsL_law_r34, w ∈ lw_tbl := in_by _ [749, 1310, 1311, 1312, 1313, 1314, 1316, 65, 1317, 1318, 1320, 66, 1321, 750, 751, 752, 753, 754, 755, 756, 757, 1322, 1323, 1324] rfl
set_option maxRecDepth 100000 in
theorem in_wsL_law_r35 : ∀ w ∈ wsL_law_r35, w ∈ lw_tbl := in_by _ [1325, 758, 759, 760, 761, 762, 763, 764, 765, 766, 767, 769, 23, 770, 771, 773, 24, 774, 775, 777, 25, 778, 779, 781] rfl
set_option maxRecDepth 100000 in
theorem in_wsL_law_r36 : ∀ w ∈ wsL_law_r36, w ∈ lw_tbl := in_by _ [26, 782, 783, 785, 27, 786, 787, 789, 28, 790, 791, 1326, 1327, 1328, 1329, 1330, 1331, 1333, 67, 1334, 1335, 1337, 68, 1338] rfl
set_option maxRecDepth 100000 in
theorem in_wsL_law_r37 : ∀ w ∈ wsL_law_r37, w ∈ lw_tbl := in_by _ [1023, 1339, 1341, 69, 1342, 792, 793, 794, 795, 796, 797, 798, 799, 1343, 1344, 1345, 1346, 800, 801, 802, 803, 804, 805, 806] rfl
set_option maxRecDepth 100000 in
theorem in_wsL_law_r38 : ∀ w ∈ wsL_law_r38, w ∈ lw_tbl := in_by _ [807, 1347, 1348, 1349, 1350, 808, 809, 810, 811, 1351, 1352, 1353, 1354, 812, 813, 814, 815, 1355, 1356, 1357, 1358, 816, 817, 818] rfl
set_option maxRecDepth 100000 in
theorem in_wsL_law_r39 : ∀ w ∈ wsL_law_r39, w ∈ lw_tbl := in_by _ [819, 820, 822, 29, 823, 824, 825, 826, 827, 360, 828, 829, 830, 831, 832, 833, 834, 835, 836, 838, 30, 839, 844, 840] rfl
set_option maxRecDepth 100000 in
theorem in_wsL_law_r40 : ∀ w ∈ wsL_law_r40, w ∈ lw_tbl := in_by _ [842, 31, 843, 845, 847, 32, 848, 849, 850, 852, 33, 853, 1359, 1360, 1361, 1362, 1363, 1364, 1365, 1366, 1368, 70, 1369, 1370] rfl
set_option maxRecDepth 100000 in
theorem in_wsL_law_r41 : ∀ w ∈ wsL_law_r41, w ∈ lw_tbl := in_by _ [1372, 71, 1373, 854, 855, 856, 857, 858, 859, 860, 861, 862, 863, 864, 865, 867, 866, 89, 1374, 1375, 1376, 1377, 1378, 1379] rfl
set_option maxRecDepth 100000 in
theorem in_wsL_law_r42 : ∀ w ∈ wsL_law_r42, w ∈ lw_tbl := in_by _ [1380, 1381, 1382, 1383, 1384, 868, 869, 870, 871, 1385, 1386, 1387, 1388, 872, 873, 874, 875, 876, 877, 878, 879, 108, 105, 880] rfl
set_option maxRecDepth 100000 in
theorem in_wsL_law_r43 : ∀ w ∈ wsL_law_r43, w ∈ lw_tbl := in_by _ [881, 883, 34, 884, 230, 152, 234, 183, 885, 887, 35, 888, 889, 891, 36, 892, 163, 156, 159, 893, 894, 895, 896, 897] rfl
set_option maxRecDepth 100000 in
theorem in_wsL_law_r44 : ∀ w ∈ wsL_law_r44, w ∈ lw_tbl := in_by _ [899, 37, 900, 188, 191, 901, 1389, 1390, 1391, 1392, 1393, 1395, 72, 1396, 1397, 1398, 1399, 1400, 902, 903, 904, 905, 1401, 1402] rfl
set_option maxRecDepth 100000 in
theorem in_wsL_law_r45 : ∀ w ∈ wsL_law_r45, w ∈ lw_tbl := in_by _ [1403, 1404, 906, 907, 908, 909, 1405, 1406, 1407, 1408, 910, 911, 912, 913, 1409, 1410, 1411, 1412] rfl
set_option maxRecDepth 100000 in
theorem in_wsX90 : ∀ w ∈ wsX90, w ∈ lw_tbl := in_by _ [391, 393, 395, 397, 399, 401, 403, 405, 407, 409, 411, 413] rfl
set_option maxRecDepth 100000 in
theorem in_wsX120 : ∀ w ∈ wsX120, w ∈ lw_tbl := in_by _ [1032, 1034, 1036, 1038, 1040, 1042, 1044, 1046, 1048, 1050, 1052, 1054, 1056, 1058, 1060, 1062, 1064, 1066, 1068, 1070, 1072, 1074, 1076, 1078, 1080, 1082, 1084, 1086, 1088, 1090, 1092, 1094] rfl
set_option maxRecDepth 100000 in
theorem in_wsX10 : ∀ w ∈ wsX10, w ∈ lw_tbl := in_by _ [121, 123, 125, 127, 129, 131, 133] rfl
set_option maxRecDepth 100000 in
theorem in_wsX60 : ∀ w ∈ wsX60, w ∈ lw_tbl := in_by _ [236, 238] rfl
set_option maxRecDepth 100000 in
theorem in_wsX70 : ∀ w ∈ wsX70, w ∈ lw_tbl := in_by _ [272, 274, 276, 278, 280, 282, 284] rfl
set_option maxRecDepth 100000 in
theorem in_wsX30 : ∀ w ∈ wsX30, w ∈ lw_tbl := in_by _ [309, 311, 313, 315, 317, 319, 321, 323, 325, 327, 329, 331, 333] rfl
set_option maxRecDepth 100000 in
theorem in_wsX50 : ∀ w ∈ wsX50, w ∈ lw_tbl := in_by _ [347, 349, 351] rfl
set_option maxRecDepth 100000 in
theorem in_wsX00 : ∀ w ∈ wsX00, w ∈ lw_tbl := in_by _ [366, 368, 370, 372, 374, 376] rfl
set_option maxRecDepth 100000 in
theorem in_wsX40 : ∀ w ∈ wsX40, w ∈ lw_tbl := in_by _ [166, 168, 170, 172] rfl
set_option maxRecDepth 100000 in
theorem in_wsX80 : ∀ w ∈ wsX80, w ∈ lw_tbl := in_by _ [203, 205, 207, 209, 211, 213, 215, 217, 219, 221, 223] rfl
set_option maxRecDepth 100000 in
theorem in_wsX20 : ∀ w ∈ wsX20, w ∈ lw_tbl := in_by _ [256, 258, 260] rfl
set_option maxRecDepth 100000 in
theorem in_wsX100 : ∀ w ∈ wsX100, w ∈ lw_tbl := in_by _ [953, 955, 957, 959, 961, 963, 965, 967, 969, 971, 973, 975, 977, 979, 981, 983] rfl
set_option maxRecDepth 100000 in
theorem in_wsX110 : ∀ w ∈ wsX110, w ∈ lw_tbl := in_by _ [995, 997] rfl
theorem wsL_law_in : ∀ w ∈ wsL_law, w ∈ lw_tbl := by
  unfold wsL_law
  exact List.forall_mem_append.mpr ⟨List.forall_mem_append.mpr ⟨List.forall_mem_append.mpr ⟨List.forall_mem_append.mpr ⟨List.forall_mem_append.mpr ⟨List.forall_mem_append.mpr ⟨List.forall_mem_append.mpr ⟨List.forall_mem_append.mpr ⟨List.forall_mem_append.mpr ⟨List.forall_mem_append.mpr ⟨List.forall_mem_append.mpr ⟨List.forall_mem_append.mpr ⟨List.forall_mem_append.mpr ⟨List.forall_mem_append.mpr ⟨List.forall_mem_append.mpr ⟨in_wsL_law_r1, List.forall_mem_append.mpr ⟨in_wsL_law_r2, List.forall_mem_append.mpr ⟨in_wsL_law_r3, List.forall_mem_append.mpr ⟨in_wsL_law_r4, List.forall_mem_append.mpr ⟨in_wsL_law_r5, List.forall_mem_append.mpr ⟨in_wsL_law_r6, List.forall_mem_append.mpr ⟨in_wsL_law_r7, List.forall_mem_append.mpr ⟨in_wsL_law_r8, List.forall_mem_append.mpr ⟨in_wsL_law_r9, List.forall_mem_append.mpr ⟨in_wsL_law_r10, List.forall_mem_append.mpr ⟨in_wsL_law_r11, List.forall_mem_append.mpr ⟨in_wsL_law_r12, List.forall_mem_append.mpr ⟨in_wsL_law_r13, List.forall_mem_append.mpr ⟨in_wsL_law_r14, List.forall_mem_append.mpr ⟨in_wsL_law_r15, List.forall_mem_append.mpr ⟨in_wsL_law_r16, List.forall_mem_append.mpr ⟨in_wsL_law_r17, List.forall_mem_append.mpr ⟨in_wsL_law_r18, List.forall_mem_append.mpr ⟨in_wsL_law_r19, List.forall_mem_append.mpr ⟨in_wsL_law_r20, List.forall_mem_append.mpr ⟨in_wsL_law_r21, List.forall_mem_append.mpr ⟨in_wsL_law_r22, List.forall_mem_append.mpr ⟨in_wsL_law_r23, List.forall_mem_append.mpr ⟨in_wsL_law_r24, List.forall_mem_append.mpr ⟨in_wsL_law_r25, List.forall_mem_append.mpr ⟨in_wsL_law_r26, List.forall_mem_append.mpr ⟨in_wsL_law_r27, List.forall_mem_append.mpr ⟨in_wsL_law_r28, List.forall_mem_append.mpr ⟨in_wsL_law_r29, List.forall_mem_append.mpr ⟨in_wsL_law_r30, List.forall_mem_append.mpr ⟨in_wsL_law_r31, List.forall_mem_append.mpr ⟨in_wsL_law_r32, List.forall_mem_append.mpr ⟨in_wsL_law_r33, List.forall_mem_append.mpr ⟨in_wsL_law_r34, List.forall_mem_append.mpr ⟨in_wsL_law_r35, List.forall_mem_append.mpr ⟨in_wsL_law_r36, List.forall_mem_append.mpr ⟨in_wsL_law_r37, List.forall_mem_append.mpr ⟨in_wsL_law_r38, List.forall_mem_append.mpr ⟨in_wsL_law_r39, List.forall_mem_append.mpr ⟨in_wsL_law_r40, List.forall_mem_append.mpr ⟨in_wsL_law_r41, List.forall_mem_append.mpr ⟨in_wsL_law_r42, List.forall_mem_append.mpr ⟨in_wsL_law_r43, List.forall_mem_append.mpr ⟨in_wsL_law_r44, in_wsL_law_r45⟩⟩⟩⟩⟩⟩⟩⟩⟩⟩⟩⟩⟩⟩⟩⟩⟩⟩⟩⟩⟩⟩⟩⟩⟩⟩⟩⟩⟩⟩⟩⟩⟩⟩⟩⟩⟩⟩⟩⟩⟩⟩⟩⟩, in_wsX90⟩, in_wsX120⟩, in_wsX10⟩, in_wsX60⟩, in_wsX70⟩, in_wsX30⟩, in_wsX50⟩, in_wsX00⟩, in_wsX40⟩, in_wsX80⟩, in_wsX20⟩, in_wsX100⟩, in_wsX110⟩, fun _ h => absurd h List.not_mem_nil⟩
theorem inX0 : ∀ w ∈ wsX00, w ∈ lw_tbl := in_wsX00
theorem inX1 : ∀ w ∈ wsX10, w ∈ lw_tbl := in_wsX10
theorem inX2 : ∀ w ∈ wsX20, w ∈ lw_tbl := in_wsX20
theorem inX3 : ∀ w ∈ wsX30, w ∈ lw_tbl := in_wsX30
theorem inX4 : ∀ w ∈ wsX40, w ∈ lw_tbl := in_wsX40
theorem inX5 : ∀ w ∈ wsX50, w ∈ lw_tbl := in_wsX50
theorem inX6 : ∀ w ∈ wsX60, w ∈ lw_tbl := in_wsX60
theorem inX7 : ∀ w ∈ wsX70, w ∈ lw_tbl := in_wsX70
theorem inX8 : ∀ w ∈ wsX80, w ∈ lw_tbl := in_wsX80
theorem inX9 : ∀ w ∈ wsX90, w ∈ lw_tbl := in_wsX90
theorem inX10 : ∀ w ∈ wsX100, w ∈ lw_tbl := in_wsX100
theorem inX11 : ∀ w ∈ wsX110, w ∈ lw_tbl := in_wsX110
theorem inX12 : ∀ w ∈ wsX120, w ∈ lw_tbl := in_wsX120
