theorem zin_places {big ws : List Cond} (ps : List Nat) (h : ws = ps.filterMap (fun i => big[i]?)) : ∀ w ∈ ws, w ∈ big := by
  intro w hw
  rw [h] at hw
  obtain ⟨i, -, hi⟩ := List.mem_filterMap.mp hw
  exact List.mem_of_getElem? hi
set_option maxRecDepth 20000 in
theorem zlaw_in_1 : ∀ w ∈ wsL_law0_r1, w ∈ lw_tbl := zin_places [58, 59, 29, 1084, 1085, 35, 269, 270, 36, 60, 61, 62, 63, 64, 65, 66, 131, 68, 30, 132, 133, 78, 79, 31] (by decide +kernel)
set_option maxRecDepth 20000 in
theorem zlaw_in_2 : ∀ w ∈ wsL_law0_r2, w ∈ lw_tbl := zin_places [134, 88, 89, 32, 135, 118, 119, 34, 136, 70, 71, 72, 77, 73, 81, 82, 83, 91, 92, 93, 94, 95, 33, 111] (by decide +kernel)
set_option maxRecDepth 20000 in
theorem zlaw_in_3 : ∀ w ∈ wsL_law0_r3, w ∈ lw_tbl := zin_places [110, 112, 97, 98, 99, 100, 101, 120, 121, 122, 123, 124, 125, 1086, 1087, 1088, 1089, 1090, 272, 273, 274, 282, 283, 28] (by decide +kernel)
set_option maxRecDepth 20000 in
theorem zlaw_in_4 : ∀ w ∈ wsL_law0_r4, w ∈ lw_tbl := zin_places [284, 285, 286, 287, 288, 289, 290, 291, 293, 0, 294, 295, 40, 363, 364, 365, 366, 41, 382, 383, 384, 385, 386, 200] (by decide +kernel)
set_option maxRecDepth 20000 in
theorem zlaw_in_5 : ∀ w ∈ wsL_law0_r5, w ∈ lw_tbl := zin_places [201, 202, 203, 204, 205, 206, 102, 207, 208, 209, 210, 211, 212, 213, 214, 387, 388, 389, 390, 391, 258, 259, 260, 392] (by decide +kernel)
set_option maxRecDepth 20000 in
theorem zlaw_in_6 : ∀ w ∈ wsL_law0_r6, w ∈ lw_tbl := zin_places [393, 394, 395, 396, 397, 398, 399, 400, 401, 402, 403, 404, 405, 406, 407, 408, 184, 185, 186, 409, 411, 2, 412, 137] (by decide +kernel)
set_option maxRecDepth 20000 in
theorem zlaw_in_7 : ∀ w ∈ wsL_law0_r7, w ∈ lw_tbl := zin_places [413, 414, 415, 416, 417, 418, 419, 420, 1113, 1114, 1115, 1116, 1117, 1118, 1119, 1120, 1121, 1122, 1123, 1125, 6, 1126, 1095, 1127] (by decide +kernel)
set_option maxRecDepth 20000 in
theorem zlaw_in_8 : ∀ w ∈ wsL_law0_r8, w ∈ lw_tbl := zin_places [1128, 1129, 1155, 1130, 1131, 1132, 1133, 1134, 1135, 1136, 1137, 1138, 1139, 1140, 1141, 1142, 1143, 1144, 1145, 1146, 1147, 1148, 604, 42] (by decide +kernel)
set_option maxRecDepth 20000 in
theorem zlaw_in_9 : ∀ w ∈ wsL_law0_r9, w ∈ lw_tbl := zin_places [605, 1149, 1150, 1151, 1152, 1153, 1154, 1156, 1158, 7, 1159, 1092, 1160, 1162, 8, 1163, 421, 422, 423, 424, 425, 426, 427, 428] (by decide +kernel)
set_option maxRecDepth 20000 in
theorem zlaw_in_10 : ∀ w ∈ wsL_law0_r10, w ∈ lw_tbl := zin_places [430, 3, 431, 267, 176, 177, 178, 1164, 1165, 1166, 1167, 1168, 1170, 9, 1171, 432, 433, 434, 435, 436, 437, 438, 439, 1172] (by decide +kernel)
set_option maxRecDepth 20000 in
theorem zlaw_in_11 : ∀ w ∈ wsL_law0_r11, w ∈ lw_tbl := zin_places [1173, 1174, 1175, 1176, 1177, 440, 441, 442, 443, 444, 445, 446, 447, 448, 1178, 1179, 1180, 1181, 1182, 1183, 449, 450, 451, 452] (by decide +kernel)
set_option maxRecDepth 20000 in
theorem zlaw_in_12 : ∀ w ∈ wsL_law0_r12, w ∈ lw_tbl := zin_places [453, 454, 455, 1184, 1185, 1186, 1187, 1188, 1190, 10, 1191, 456, 457, 458, 459, 460, 461, 462, 463, 464, 465, 466, 467, 1192] (by decide +kernel)
set_option maxRecDepth 20000 in
theorem zlaw_in_13 : ∀ w ∈ wsL_law0_r13, w ∈ lw_tbl := zin_places [1193, 1194, 1195, 468, 469, 470, 471, 472, 473, 474, 475, 476, 477, 478, 171, 172, 173, 174, 84, 175, 179, 180, 181, 182] (by decide +kernel)
set_option maxRecDepth 20000 in
theorem zlaw_in_14 : ∀ w ∈ wsL_law0_r14, w ∈ lw_tbl := zin_places [183, 479, 480, 481, 482, 215, 216, 217, 218, 219, 220, 221, 222, 223, 187, 188, 189, 190, 483, 485, 4, 486, 138, 1196] (by decide +kernel)
set_option maxRecDepth 20000 in
theorem zlaw_in_15 : ∀ w ∈ wsL_law0_r15, w ∈ lw_tbl := zin_places [1197, 1198, 1199, 1091, 1200, 1202, 11, 1203, 1204, 1206, 12, 1207, 1208, 1209, 1211, 13, 1212, 1093, 487, 488, 489, 490, 491, 492] (by decide +kernel)
set_option maxRecDepth 20000 in
theorem zlaw_in_16 : ∀ w ∈ wsL_law0_r16, w ∈ lw_tbl := zin_places [493, 228, 229, 230, 231, 1213, 1214, 1215, 1216, 1217, 1219, 14, 1220, 494, 495, 496, 497, 498, 499, 500, 501, 502, 503, 504] (by decide +kernel)
set_option maxRecDepth 20000 in
theorem zlaw_in_17 : ∀ w ∈ wsL_law0_r17, w ∈ lw_tbl := zin_places [505, 506, 507, 508, 509, 510, 511, 512, 513, 514, 168, 169, 170, 515, 192, 193, 194, 195, 196, 197, 198, 199, 516, 244] (by decide +kernel)
set_option maxRecDepth 20000 in
theorem zlaw_in_18 : ∀ w ∈ wsL_law0_r18, w ∈ lw_tbl := zin_places [245, 246, 247, 248, 249, 250, 251, 252, 253, 254, 255, 256, 257, 517, 518, 519, 520, 521, 522, 523, 524, 1221, 1222, 1223] (by decide +kernel)
set_option maxRecDepth 20000 in
theorem zlaw_in_19 : ∀ w ∈ wsL_law0_r19, w ∈ lw_tbl := zin_places [1224, 1225, 1227, 15, 1228, 1229, 1231, 16, 1232, 1233, 1235, 17, 1236, 1237, 1239, 18, 1240, 1241, 1242, 1243, 525, 526, 527, 528] (by decide +kernel)
set_option maxRecDepth 20000 in
theorem zlaw_in_20 : ∀ w ∈ wsL_law0_r20, w ∈ lw_tbl := zin_places [529, 530, 531, 532, 533, 534, 535, 536, 44, 566, 537, 538, 539, 540, 541, 43, 542, 543, 544, 362, 553, 554, 546, 547] (by decide +kernel)
set_option maxRecDepth 20000 in
theorem zlaw_in_21 : ∀ w ∈ wsL_law0_r21, w ∈ lw_tbl := zin_places [46, 548, 549, 550, 551, 552, 567, 568, 569, 570, 571, 1389, 565, 572, 573, 556, 574, 1390, 22, 576, 577, 578, 1391, 23] (by decide +kernel)
set_option maxRecDepth 20000 in
theorem zlaw_in_22 : ∀ w ∈ wsL_law0_r22, w ∈ lw_tbl := zin_places [580, 581, 592, 582, 583, 47, 584, 585, 586, 587, 588, 589, 590, 591, 593, 594, 48, 595, 596, 597, 598, 599, 600, 602] (by decide +kernel)
set_option maxRecDepth 20000 in
theorem zlaw_in_23 : ∀ w ∈ wsL_law0_r23, w ∈ lw_tbl := zin_places [603, 606, 608, 607, 49, 609, 611, 612, 610, 613, 614, 615, 50, 616, 617, 1392, 24, 619, 620, 621, 622, 623, 624, 625] (by decide +kernel)
set_option maxRecDepth 20000 in
theorem zlaw_in_24 : ∀ w ∈ wsL_law0_r24, w ∈ lw_tbl := zin_places [626, 627, 628, 629, 630, 631, 632, 633, 634, 45, 635, 636, 638, 639, 51, 640, 641, 642, 643, 644, 646, 648, 650, 651] (by decide +kernel)
set_option maxRecDepth 20000 in
theorem zlaw_in_25 : ∀ w ∈ wsL_law0_r25, w ∈ lw_tbl := zin_places [652, 653, 654, 655, 656, 657, 658, 659, 660, 661, 662, 663, 664, 665, 666, 1393, 667, 668, 669, 670, 671, 672, 673, 674] (by decide +kernel)
set_option maxRecDepth 20000 in
theorem zlaw_in_26 : ∀ w ∈ wsL_law0_r26, w ∈ lw_tbl := zin_places [675, 676, 677, 678, 679, 680, 681, 682, 683, 684, 685, 52, 686, 687, 688, 689, 690, 691, 692, 693, 694, 695, 696, 697] (by decide +kernel)
set_option maxRecDepth 20000 in
theorem zlaw_in_27 : ∀ w ∈ wsL_law0_r27, w ∈ lw_tbl := zin_places [698, 699, 700, 701, 702, 703, 704, 705, 706, 707, 708, 709, 710, 711, 821, 820, 792, 555, 712, 714, 715, 713, 716, 717] (by decide +kernel)
set_option maxRecDepth 20000 in
theorem zlaw_in_28 : ∀ w ∈ wsL_law0_r28, w ∈ lw_tbl := zin_places [719, 718, 720, 721, 722, 723, 718, 724, 725, 726, 727, 728, 729, 730, 731, 732, 733, 734, 736, 810, 811, 812, 813, 814] (by decide +kernel)
set_option maxRecDepth 20000 in
theorem zlaw_in_29 : ∀ w ∈ wsL_law0_r29, w ∈ lw_tbl := zin_places [815, 816, 817, 818, 819, 1244, 1245, 1246, 1247, 1249, 1250, 1251, 771, 772, 773, 774, 1395, 775, 776, 777, 1396, 25, 779, 780] (by decide +kernel)
set_option maxRecDepth 20000 in
theorem zlaw_in_30 : ∀ w ∈ wsL_law0_r30, w ∈ lw_tbl := zin_places [781, 782, 783, 758, 759, 760, 761, 762, 763, 784, 785, 786, 787, 788, 789, 790, 791, 793, 1397, 26, 795, 796, 797, 1398] (by decide +kernel)
set_option maxRecDepth 20000 in
theorem zlaw_in_31 : ∀ w ∈ wsL_law0_r31, w ∈ lw_tbl := zin_places [27, 799, 800, 801, 802, 803, 804, 805, 806, 807, 1252, 1253, 1254, 1255, 1256, 1399, 1257, 1258, 1259, 1260, 54, 1261, 1262, 1263] (by decide +kernel)
set_option maxRecDepth 20000 in
theorem zlaw_in_32 : ∀ w ∈ wsL_law0_r32, w ∈ lw_tbl := zin_places [1264, 1265, 1266, 1267, 1268, 1269, 1270, 1271, 1272, 1273, 1274, 1275, 1276, 1277, 1278, 767, 768, 1279, 831, 832, 833, 834, 835, 836] (by decide +kernel)
set_option maxRecDepth 20000 in
theorem zlaw_in_33 : ∀ w ∈ wsL_law0_r33, w ∈ lw_tbl := zin_places [837, 1280, 1281, 1282, 1283, 838, 839, 840, 841, 842, 843, 844, 224, 225, 226, 227, 1284, 1285, 1286, 1287, 845, 846, 847, 848] (by decide +kernel)
set_option maxRecDepth 20000 in
theorem zlaw_in_34 : ∀ w ∈ wsL_law0_r34, w ∈ lw_tbl := zin_places [849, 850, 851, 232, 233, 234, 235, 236, 237, 238, 239, 240, 241, 242, 852, 853, 1288, 1289, 1290, 1291, 1292, 1294, 19, 1295] (by decide +kernel)
set_option maxRecDepth 20000 in
theorem zlaw_in_35 : ∀ w ∈ wsL_law0_r35, w ∈ lw_tbl := zin_places [854, 855, 856, 857, 858, 859, 860, 861, 865, 55, 862, 863, 864, 1296, 1297, 1298, 1299, 1300, 1302, 20, 1303, 881, 882, 883] (by decide +kernel)
set_option maxRecDepth 20000 in
theorem zlaw_in_36 : ∀ w ∈ wsL_law0_r36, w ∈ lw_tbl := zin_places [884, 885, 886, 887, 888, 889, 890, 891, 892, 893, 894, 895, 896, 898, 899, 56, 900, 901, 902, 903, 904, 905, 906, 907] (by decide +kernel)
set_option maxRecDepth 20000 in
theorem zlaw_in_37 : ∀ w ∈ wsL_law0_r37, w ∈ lw_tbl := zin_places [908, 909, 910, 911, 912, 913, 914, 1304, 1305, 1306, 1307, 1308, 1309, 1310, 1311, 915, 916, 917, 918, 919, 920, 921, 923, 57] (by decide +kernel)
set_option maxRecDepth 20000 in
theorem zlaw_in_38 : ∀ w ∈ wsL_law0_r38, w ∈ lw_tbl := zin_places [924, 925, 926, 927, 928, 929, 53, 930, 931, 932, 933, 934, 1312, 1313, 1314, 1315, 1316, 1317, 1318, 935, 936, 937, 938, 939] (by decide +kernel)
set_option maxRecDepth 20000 in
theorem zlaw_in_39 : ∀ w ∈ wsL_law0_r39, w ∈ lw_tbl := zin_places [940, 941, 942, 943, 944, 945, 946, 947, 948, 949, 950, 1319, 1320, 1321, 1322, 1323, 1325, 21, 1326, 951, 952, 953, 954, 955] (by decide +kernel)
set_option maxRecDepth 20000 in
theorem zlaw_in_40 : ∀ w ∈ wsL_law0_r40, w ∈ lw_tbl := zin_places [956, 957, 958, 959, 960, 961, 962, 1327, 1328, 1329, 1330, 963, 964, 965, 966, 967, 968, 969, 970, 971, 972, 973, 974, 975] (by decide +kernel)
set_option maxRecDepth 20000 in
theorem zlaw_in_41 : ∀ w ∈ wsL_law0_r41, w ∈ lw_tbl := zin_places [976, 977, 978, 979, 1331, 1332, 1333, 1334, 980, 981, 982, 983, 984, 985, 986, 987, 988, 989, 990, 991, 992, 994, 5, 995] (by decide +kernel)
set_option maxRecDepth 20000 in
theorem zlaw_in_42 : ∀ w ∈ wsL_law0_r42, w ∈ lw_tbl := zin_places [1335, 1336, 1337, 1338, 996, 997, 998, 999, 1000, 1001, 1002, 1003, 1004, 1005, 1006, 1007, 1339, 1340, 1341, 1342, 1008, 1009, 1010, 1011] (by decide +kernel)
set_option maxRecDepth 20000 in
theorem zlaw_in_43 : ∀ w ∈ wsL_law0_r43, w ∈ lw_tbl := zin_places [1012, 1013, 1014, 1015, 1016, 1017, 1018, 1019, 1020, 1021, 1022, 1343, 1344, 1345, 1346, 1023, 1024, 1025, 1026, 1027, 1028, 1029, 1030, 1031] (by decide +kernel)
set_option maxRecDepth 20000 in
theorem zlaw_in_44 : ∀ w ∈ wsL_law0_r44, w ∈ lw_tbl := zin_places [1032, 1033, 1034, 1035, 1036, 1037, 1038, 1039, 1040, 1041, 1347, 1348, 1349, 1350, 1042, 1043, 1044, 1045, 1046, 1047, 1048, 1049, 1050, 1051] (by decide +kernel)
set_option maxRecDepth 20000 in
theorem zlaw_in_45 : ∀ w ∈ wsL_law0_r45, w ∈ lw_tbl := zin_places [1052, 1351, 1352, 1353, 1354, 1109, 1110, 1111, 1112, 1053, 1054, 1055, 1056, 1057, 1058, 1059, 1355, 1356, 1357, 1358, 1061, 1062, 1063, 1064] (by decide +kernel)
set_option maxRecDepth 20000 in
theorem zlaw_in_46 : ∀ w ∈ wsL_law0_r46, w ∈ lw_tbl := zin_places [1065, 1066, 1067, 1068, 1069, 1070, 1071, 1072, 1073, 1074, 1075, 739, 740, 741, 742, 1394, 743, 744, 745, 746, 747, 748, 749, 750] (by decide +kernel)
set_option maxRecDepth 20000 in
theorem zlaw_in_47 : ∀ w ∈ wsL_law0_r47, w ∈ lw_tbl := zin_places [751, 753, 755, 756, 757, 764, 765, 766, 1076, 1359, 1360, 1361, 1362, 1363, 1364, 1365, 1366, 1368, 1077, 1078, 1079, 1080, 1081, 1082] (by decide +kernel)
set_option maxRecDepth 20000 in
theorem zlaw_in_48 : ∀ w ∈ wsL_law0_r48, w ∈ lw_tbl := zin_places [1083, 139, 1370, 1371, 1372, 1373, 1094, 159, 160, 161, 162, 1374, 1375, 1376, 1377, 163, 164, 165, 166, 167, 191, 243, 1378, 1379] (by decide +kernel)
set_option maxRecDepth 20000 in
theorem zlaw_in_49 : ∀ w ∈ wsL_law0_r49, w ∈ lw_tbl := zin_places [1380, 1381, 261, 262, 263, 264, 265, 266, 268, 1382, 1383, 1384, 1385, 1386, 1387] (by decide +kernel)
theorem zapp {a b big : List Cond} (ha : ∀ w ∈ a, w ∈ big) (hb : ∀ w ∈ b, w ∈ big) : ∀ w ∈ a ++ b, w ∈ big := fun w h => (List.mem_append.mp h).elim (ha w) (hb w)
theorem zlaw_w_X7 : ∀ w ∈ wsX70, w ∈ lw_tbl := by decide +kernel
theorem zlaw_w_X9 : ∀ w ∈ wsX90, w ∈ lw_tbl := by decide +kernel
theorem zlaw_w_X8 : ∀ w ∈ wsX80, w ∈ lw_tbl := by decide +kernel
theorem zlaw_w_X4 : ∀ w ∈ wsX40, w ∈ lw_tbl := by decide +kernel
theorem zlaw_w_X3 : ∀ w ∈ wsX30, w ∈ lw_tbl := by decide +kernel
theorem zlaw_w_X1 : ∀ w ∈ wsX10, w ∈ lw_tbl := by decide +kernel
theorem zlaw_w_X0 : ∀ w ∈ wsX00, w ∈ lw_tbl := by decide +kernel
theorem zlaw_w_X2 : ∀ w ∈ wsX20, w ∈ lw_tbl := by decide +kernel
theorem zlaw_w_J4 : ∀ w ∈ wsJ40, w ∈ lw_tbl := by decide +kernel
theorem zlaw_w_J0 : ∀ w ∈ wsJ00, w ∈ lw_tbl := by decide +kernel
set_option maxRecDepth 20000 in
theorem wsL_law_in0 : ∀ w ∈ wsL_law0, w ∈ lw_tbl := zapp (zapp (zapp (zapp (zapp (zapp (zapp (zapp (zapp (zapp (zapp (zapp zlaw_in_1 (zapp zlaw_in_2 (zapp zlaw_in_3 (zapp zlaw_in_4 (zapp zlaw_in_5 (zapp zlaw_in_6 (zapp zlaw_in_7 (zapp zlaw_in_8 (zapp zlaw_in_9 (zapp zlaw_in_10 (zapp zlaw_in_11 (zapp zlaw_in_12 (zapp zlaw_in_13 (zapp zlaw_in_14 (zapp zlaw_in_15 (zapp zlaw_in_16 (zapp zlaw_in_17 (zapp zlaw_in_18 (zapp zlaw_in_19 (zapp zlaw_in_20 (zapp zlaw_in_21 (zapp zlaw_in_22 (zapp zlaw_in_23 (zapp zlaw_in_24 (zapp zlaw_in_25 (zapp zlaw_in_26 (zapp zlaw_in_27 (zapp zlaw_in_28 (zapp zlaw_in_29 (zapp zlaw_in_30 (zapp zlaw_in_31 (zapp zlaw_in_32 (zapp zlaw_in_33 (zapp zlaw_in_34 (zapp zlaw_in_35 (zapp zlaw_in_36 (zapp zlaw_in_37 (zapp zlaw_in_38 (zapp zlaw_in_39 (zapp zlaw_in_40 (zapp zlaw_in_41 (zapp zlaw_in_42 (zapp zlaw_in_43 (zapp zlaw_in_44 (zapp zlaw_in_45 (zapp zlaw_in_46 (zapp zlaw_in_47 (zapp zlaw_in_48 (zlaw_in_49))))))))))))))))))))))))))))))))))))))))))))))))) zlaw_w_X7) zlaw_w_X9) zlaw_w_X8) zlaw_w_X4) zlaw_w_X3) zlaw_w_X1) zlaw_w_X0) zlaw_w_X2) zlaw_w_J4) zlaw_w_J0) (fun _ h => absurd h List.not_mem_nil)
theorem wsL_law_x0 : ∀ w ∈ (vx_atS RX7 266 "java/lang/IndexOutOfBoundsException" ["java/lang/RuntimeException", "java/lang/Exception"]).filter goodWord, w ∈ lw_tbl := by decide +kernel
theorem wsL_law_x1 : ∀ w ∈ (vx_atS RX7 235 "java/lang/IllegalArgumentException" ["java/lang/RuntimeException", "java/lang/Exception"]).filter goodWord, w ∈ lw_tbl := by decide +kernel
theorem wsL_law_x2 : ∀ w ∈ (vx_atS RX7 142 "java/lang/IllegalStateException" ["java/lang/RuntimeException", "java/lang/Exception"]).filter goodWord, w ∈ lw_tbl := by decide +kernel
theorem wsL_law_in : ∀ w ∈ wsL_law, w ∈ lw_tbl := fun w h => (List.mem_append.mp h).elim (fun h => (List.mem_append.mp h).elim (fun h => (List.mem_append.mp h).elim (fun h => wsL_law_in0 w h) (fun h => wsL_law_x0 w h)) (fun h => wsL_law_x1 w h)) (fun h => wsL_law_x2 w h)
theorem inlX0 : ∀ w ∈ wsX00, w ∈ wsL_law := fun _ h => List.mem_append_left _ (List.mem_append_left _ (List.mem_append_left _ (List.mem_append_left _ (List.mem_append_left _ (List.mem_append_left _ (List.mem_append_left _ (List.mem_append_right _ h)))))))
theorem inX0 : ∀ w ∈ wsX00, w ∈ lw_tbl := fun w h => wsL_law_in w (inlX0 w h)
theorem inlX1 : ∀ w ∈ wsX10, w ∈ wsL_law := fun _ h => List.mem_append_left _ (List.mem_append_left _ (List.mem_append_left _ (List.mem_append_left _ (List.mem_append_left _ (List.mem_append_left _ (List.mem_append_left _ (List.mem_append_left _ (List.mem_append_right _ h))))))))
theorem inX1 : ∀ w ∈ wsX10, w ∈ lw_tbl := fun w h => wsL_law_in w (inlX1 w h)
theorem inlX2 : ∀ w ∈ wsX20, w ∈ wsL_law := fun _ h => List.mem_append_left _ (List.mem_append_left _ (List.mem_append_left _ (List.mem_append_left _ (List.mem_append_left _ (List.mem_append_left _ (List.mem_append_right _ h))))))
theorem inX2 : ∀ w ∈ wsX20, w ∈ lw_tbl := fun w h => wsL_law_in w (inlX2 w h)
theorem inlX3 : ∀ w ∈ wsX30, w ∈ wsL_law := fun _ h => List.mem_append_left _ (List.mem_append_left _ (List.mem_append_left _ (List.mem_append_left _ (List.mem_append_left _ (List.mem_append_left _ (List.mem_append_left _ (List.mem_append_left _ (List.mem_append_left _ (List.mem_append_right _ h)))))))))
theorem inX3 : ∀ w ∈ wsX30, w ∈ lw_tbl := fun w h => wsL_law_in w (inlX3 w h)
theorem inlX4 : ∀ w ∈ wsX40, w ∈ wsL_law := fun _ h => List.mem_append_left _ (List.mem_append_left _ (List.mem_append_left _ (List.mem_append_left _ (List.mem_append_left _ (List.mem_append_left _ (List.mem_append_left _ (List.mem_append_left _ (List.mem_append_left _ (List.mem_append_left _ (List.mem_append_right _ h))))))))))
theorem inX4 : ∀ w ∈ wsX40, w ∈ lw_tbl := fun w h => wsL_law_in w (inlX4 w h)
theorem inX5 : ∀ w ∈ wsX50, w ∈ lw_tbl := by decide +kernel
theorem inX6 : ∀ w ∈ wsX60, w ∈ lw_tbl := by decide +kernel
theorem inlX7 : ∀ w ∈ wsX70, w ∈ wsL_law := fun _ h => List.mem_append_left _ (List.mem_append_left _ (List.mem_append_left _ (List.mem_append_left _ (List.mem_append_left _ (List.mem_append_left _ (List.mem_append_left _ (List.mem_append_left _ (List.mem_append_left _ (List.mem_append_left _ (List.mem_append_left _ (List.mem_append_left _ (List.mem_append_left _ (List.mem_append_right _ h)))))))))))))
theorem inX7 : ∀ w ∈ wsX70, w ∈ lw_tbl := fun w h => wsL_law_in w (inlX7 w h)
theorem inlX8 : ∀ w ∈ wsX80, w ∈ wsL_law := fun _ h => List.mem_append_left _ (List.mem_append_left _ (List.mem_append_left _ (List.mem_append_left _ (List.mem_append_left _ (List.mem_append_left _ (List.mem_append_left _ (List.mem_append_left _ (List.mem_append_left _ (List.mem_append_left _ (List.mem_append_left _ (List.mem_append_right _ h)))))))))))
theorem inX8 : ∀ w ∈ wsX80, w ∈ lw_tbl := fun w h => wsL_law_in w (inlX8 w h)
theorem inlX9 : ∀ w ∈ wsX90, w ∈ wsL_law := fun _ h => List.mem_append_left _ (List.mem_append_left _ (List.mem_append_left _ (List.mem_append_left _ (List.mem_append_left _ (List.mem_append_left _ (List.mem_append_left _ (List.mem_append_left _ (List.mem_append_left _ (List.mem_append_left _ (List.mem_append_left _ (List.mem_append_left _ (List.mem_append_right _ h))))))))))))
theorem inX9 : ∀ w ∈ wsX90, w ∈ lw_tbl := fun w h => wsL_law_in w (inlX9 w h)
theorem inJ5 : ∀ w ∈ wsJ50, w ∈ lw_tbl := by decide +kernel
theorem inJ11 : ∀ w ∈ wsJ110, w ∈ lw_tbl := by decide +kernel
theorem inJx8e188 : ∀ w ∈ wsJx8e1880, w ∈ lw_tbl := by decide +kernel
theorem inJ6 : ∀ w ∈ wsJ60, w ∈ lw_tbl := by decide +kernel
theorem inJ13 : ∀ w ∈ wsJ130, w ∈ lw_tbl := by decide +kernel
theorem inJ9 : ∀ w ∈ wsJ90, w ∈ lw_tbl := by decide +kernel
theorem inlJ0 : ∀ w ∈ wsJ00, w ∈ wsL_law := fun _ h => List.mem_append_left _ (List.mem_append_left _ (List.mem_append_left _ (List.mem_append_left _ (List.mem_append_right _ h))))
theorem inJ0 : ∀ w ∈ wsJ00, w ∈ lw_tbl := fun w h => wsL_law_in w (inlJ0 w h)
theorem inlJ4 : ∀ w ∈ wsJ40, w ∈ wsL_law := fun _ h => List.mem_append_left _ (List.mem_append_left _ (List.mem_append_left _ (List.mem_append_left _ (List.mem_append_left _ (List.mem_append_right _ h)))))
theorem inJ4 : ∀ w ∈ wsJ40, w ∈ lw_tbl := fun w h => wsL_law_in w (inlJ4 w h)
theorem inJ1 : ∀ w ∈ wsJ10, w ∈ lw_tbl := by decide +kernel
theorem inJ2 : ∀ w ∈ wsJ20, w ∈ lw_tbl := by decide +kernel
theorem inJ10 : ∀ w ∈ wsJ100, w ∈ lw_tbl := by decide +kernel
theorem inJ7 : ∀ w ∈ wsJ70, w ∈ lw_tbl := by decide +kernel
theorem inJ8 : ∀ w ∈ wsJ80, w ∈ lw_tbl := by decide +kernel
theorem inJ3 : ∀ w ∈ wsJ30, w ∈ lw_tbl := by decide +kernel
