set_option maxRecDepth 100000 in
theorem zp_1 : wsL_law_r1 = [79, 80, 61, 996, 997, 72, 1501, 81, 82, 83, 84, 85, 86, 87, 88, 62, 379, 104, 105, 63, 380, 381, 196, 197].filterMap (fun i => lw_tbl[i]?) := by decide +kernel
set_option maxRecDepth 100000 in
theorem zp_2 : wsL_law_r2 = [64, 382, 229, 230, 65, 383, 240, 241, 66, 384, 274, 275, 67, 385, 289, 290, 68, 386, 308, 309, 69, 387, 329, 330].filterMap (fun i => lw_tbl[i]?) := by decide +kernel
set_option maxRecDepth 100000 in
theorem zp_3 : wsL_law_r3 = [70, 388, 357, 358, 71, 389, 390, 90, 91, 92, 103, 93, 95, 107, 108, 109, 112, 195, 116, 119, 121, 110, 123, 128].filterMap (fun i => lw_tbl[i]?) := by decide +kernel
set_option maxRecDepth 100000 in
theorem zp_4 : wsL_law_r4 = [130, 132, 134, 136, 137, 138, 139, 140, 142, 143, 148, 150, 155, 198, 199, 200, 201, 204, 205, 206, 207, 208, 210, 202].filterMap (fun i => lw_tbl[i]?) := by decide +kernel
set_option maxRecDepth 100000 in
theorem zp_5 : wsL_law_r5 = [203, 232, 233, 234, 235, 236, 243, 244, 245, 246, 248, 250, 252, 273, 254, 255, 256, 277, 278, 279, 280, 282, 292, 293].filterMap (fun i => lw_tbl[i]?) := by decide +kernel
set_option maxRecDepth 100000 in
theorem zp_6 : wsL_law_r6 = [294, 295, 297, 299, 311, 312, 313, 314, 316, 318, 319, 332, 333, 334, 335, 337, 338, 339, 340, 342, 360, 361, 362, 364].filterMap (fun i => lw_tbl[i]?) := by decide +kernel
set_option maxRecDepth 100000 in
theorem zp_7 : wsL_law_r7 = [365, 363, 367, 375, 376, 377, 378, 998, 999, 1000, 1001, 1007, 1008, 1009, 1011, 1012, 1014, 1015, 1018, 1019, 1020, 1022, 1023, 1024].filterMap (fun i => lw_tbl[i]?) := by decide +kernel
set_option maxRecDepth 100000 in
theorem zp_8 : wsL_law_r8 = [1026, 1027, 1030, 1038, 1039, 1041, 1042, 1043, 1044, 1045, 1046, 1048, 1053, 1056, 1057, 1058, 1059, 1060, 1061, 1002, 1004, 28, 1005, 416].filterMap (fun i => lw_tbl[i]?) := by decide +kernel
set_option maxRecDepth 100000 in
theorem zp_9 : wsL_law_r9 = [417, 418, 419, 96, 420, 421, 422, 423, 1175, 1176, 1177, 1178, 1031, 1179, 424, 425, 426, 427, 1180, 1181, 1182, 1183, 1184, 1185].filterMap (fun i => lw_tbl[i]?) := by decide +kernel
set_option maxRecDepth 100000 in
theorem zp_10 : wsL_law_r10 = [1186, 428, 429, 430, 431, 209, 211, 336, 114, 432, 433, 434, 435, 141, 436, 437, 438, 439, 440, 442, 0, 443, 97, 94].filterMap (fun i => lw_tbl[i]?) := by decide +kernel
set_option maxRecDepth 100000 in
theorem zp_11 : wsL_law_r11 = [444, 445, 446, 447, 449, 1, 450, 451, 452, 453, 454, 456, 2, 457, 458, 460, 3, 461, 463, 465, 4, 466, 467, 468].filterMap (fun i => lw_tbl[i]?) := by decide +kernel
set_option maxRecDepth 100000 in
theorem zp_12 : wsL_law_r12 = [469, 73, 470, 1502, 471, 472, 473, 474, 475, 1503, 477, 478, 479, 480, 481, 482, 483, 484, 485, 486, 74, 487, 488, 489].filterMap (fun i => lw_tbl[i]?) := by decide +kernel
set_option maxRecDepth 100000 in
theorem zp_13 : wsL_law_r13 = [490, 491, 493, 494, 75, 495, 496, 497, 76, 498, 499, 500, 501, 502, 503, 504, 505, 506, 507, 508, 509, 511, 513, 515].filterMap (fun i => lw_tbl[i]?) := by decide +kernel
set_option maxRecDepth 100000 in
theorem zp_14 : wsL_law_r14 = [517, 5, 518, 113, 519, 521, 6, 522, 523, 524, 525, 526, 527, 529, 7, 530, 532, 533, 535, 536, 537, 538, 539, 540].filterMap (fun i => lw_tbl[i]?) := by decide +kernel
set_option maxRecDepth 100000 in
theorem zp_15 : wsL_law_r15 = [541, 542, 543, 544, 546, 548, 8, 549, 550, 551, 552, 553, 554, 556, 9, 557, 559, 560, 561, 562, 563, 565, 10, 566].filterMap (fun i => lw_tbl[i]?) := by decide +kernel
set_option maxRecDepth 100000 in
theorem zp_16 : wsL_law_r16 = [567, 569, 11, 570, 149, 571, 572, 573, 574, 1187, 1188, 1189, 1190, 1036, 1032, 1017, 1021, 1029, 1025, 1034, 1244, 1037, 1006, 1191].filterMap (fun i => lw_tbl[i]?) := by decide +kernel
set_option maxRecDepth 100000 in
theorem zp_17 : wsL_law_r17 = [1193, 29, 1194, 1033, 1199, 1200, 1201, 1202, 1035, 1195, 1197, 30, 1198, 1203, 1205, 31, 1206, 1207, 1209, 32, 1210, 1211, 1213, 33].filterMap (fun i => lw_tbl[i]?) := by decide +kernel
set_option maxRecDepth 100000 in
theorem zp_18 : wsL_law_r18 = [1214, 1215, 1217, 34, 1218, 1219, 1221, 35, 1222, 1223, 1225, 36, 1226, 1227, 1229, 37, 1230, 1231, 1232, 1234, 38, 1235, 1236, 1238].filterMap (fun i => lw_tbl[i]?) := by decide +kernel
set_option maxRecDepth 100000 in
theorem zp_19 : wsL_law_r19 = [39, 1239, 1240, 1242, 40, 1243, 1245, 1247, 41, 1248, 1010, 1028, 1016, 1055, 1249, 1251, 42, 1252, 1013, 1253, 1255, 43, 1256, 1257].filterMap (fun i => lw_tbl[i]?) := by decide +kernel
set_option maxRecDepth 100000 in
theorem zp_20 : wsL_law_r20 = [1259, 44, 1260, 575, 576, 577, 578, 1261, 1262, 1263, 1264, 579, 580, 581, 582, 127, 118, 120, 122, 583, 584, 585, 586, 1265].filterMap (fun i => lw_tbl[i]?) := by decide +kernel
set_option maxRecDepth 100000 in
theorem zp_21 : wsL_law_r21 = [1266, 1267, 1268, 1273, 1274, 1269, 1271, 45, 1272, 1275, 1277, 46, 1278, 1279, 1281, 47, 1282, 587, 588, 589, 590, 147, 154, 1283].filterMap (fun i => lw_tbl[i]?) := by decide +kernel
set_option maxRecDepth 100000 in
theorem zp_22 : wsL_law_r22 = [1284, 1285, 1286, 591, 592, 593, 594, 595, 596, 597, 598, 599, 600, 601, 602, 603, 605, 12, 606, 1287, 1288, 1289, 1290, 1291].filterMap (fun i => lw_tbl[i]?) := by decide +kernel
set_option maxRecDepth 100000 in
theorem zp_23 : wsL_law_r23 = [1293, 48, 1294, 607, 608, 609, 610, 611, 612, 613, 614, 615, 616, 617, 618, 77, 619, 620, 621, 622, 1295, 1296, 1297, 1298].filterMap (fun i => lw_tbl[i]?) := by decide +kernel
set_option maxRecDepth 100000 in
theorem zp_24 : wsL_law_r24 = [1299, 1300, 1301, 1302, 1303, 1304, 1305, 1306, 1307, 1308, 1309, 1310, 623, 624, 625, 626, 131, 133, 135, 627, 628, 629, 630, 631].filterMap (fun i => lw_tbl[i]?) := by decide +kernel
set_option maxRecDepth 100000 in
theorem zp_25 : wsL_law_r25 = [632, 633, 634, 635, 636, 637, 638, 1311, 1312, 1313, 1314, 1315, 639, 640, 641, 642, 643, 644, 645, 646, 647, 1316, 1317, 1318].filterMap (fun i => lw_tbl[i]?) := by decide +kernel
set_option maxRecDepth 100000 in
theorem zp_26 : wsL_law_r26 = [1319, 1320, 648, 649, 650, 651, 652, 654, 13, 655, 656, 657, 658, 659, 660, 662, 14, 663, 664, 665, 666, 667, 668, 670].filterMap (fun i => lw_tbl[i]?) := by decide +kernel
set_option maxRecDepth 100000 in
theorem zp_27 : wsL_law_r27 = [15, 671, 672, 1321, 1322, 1323, 1324, 1325, 1326, 1327, 1328, 673, 674, 675, 676, 677, 678, 679, 680, 681, 1329, 1330, 1331, 1332].filterMap (fun i => lw_tbl[i]?) := by decide +kernel
set_option maxRecDepth 100000 in
theorem zp_28 : wsL_law_r28 = [1040, 682, 683, 684, 685, 686, 687, 688, 689, 690, 691, 692, 693, 694, 696, 16, 697, 698, 699, 700, 701, 702, 703, 704].filterMap (fun i => lw_tbl[i]?) := by decide +kernel
set_option maxRecDepth 100000 in
theorem zp_29 : wsL_law_r29 = [1333, 1334, 1335, 1336, 705, 706, 707, 708, 247, 1337, 1338, 1339, 1340, 709, 710, 711, 712, 249, 257, 713, 714, 715, 716, 1341].filterMap (fun i => lw_tbl[i]?) := by decide +kernel
set_option maxRecDepth 100000 in
theorem zp_30 : wsL_law_r30 = [1342, 1343, 1344, 1345, 1347, 49, 1348, 717, 718, 719, 720, 251, 1349, 1350, 1351, 1352, 1353, 1354, 721, 722, 723, 724, 727, 17].filterMap (fun i => lw_tbl[i]?) := by decide +kernel
set_option maxRecDepth 100000 in
theorem zp_31 : wsL_law_r31 = [728, 729, 731, 18, 732, 733, 734, 78, 735, 736, 737, 738, 739, 1355, 1356, 1357, 1358, 1359, 1360, 1361, 1362, 1364, 50, 1365].filterMap (fun i => lw_tbl[i]?) := by decide +kernel
set_option maxRecDepth 100000 in
theorem zp_32 : wsL_law_r32 = [740, 741, 742, 743, 744, 745, 746, 747, 748, 1366, 1367, 1368, 1369, 749, 750, 751, 752, 253, 753, 754, 755, 756, 757, 759].filterMap (fun i => lw_tbl[i]?) := by decide +kernel
set_option maxRecDepth 100000 in
theorem zp_33 : wsL_law_r33 = [19, 760, 761, 763, 20, 764, 765, 766, 767, 768, 770, 21, 771, 1370, 1371, 1372, 1373, 1047, 1374, 1376, 51, 1377, 772, 773].filterMap (fun i => lw_tbl[i]?) := by decide +kernel
set_option maxRecDepth 100000 in
theorem zp_34 : wsL_law_r34 = [774, 775, 281, 283, 776, 777, 778, 779, 780, 781, 782, 784, 785, 786, 787, 144, 151, 124, 117, 788, 789, 790, 791, 1378].filterMap (fun i => lw_tbl[i]?) := by decide +kernel
set_option maxRecDepth 100000 in
theorem zp_35 : wsL_law_r35 = [1379, 1380, 1381, 1385, 1049, 1050, 1382, 1383, 1384, 1386, 1388, 52, 1389, 1390, 1392, 53, 1393, 792, 793, 794, 795, 796, 797, 798].filterMap (fun i => lw_tbl[i]?) := by decide +kernel
set_option maxRecDepth 100000 in
theorem zp_36 : wsL_law_r36 = [799, 800, 801, 802, 803, 804, 805, 806, 807, 808, 1394, 1395, 1396, 1397, 1398, 1399, 1400, 809, 810, 811, 812, 813, 814, 815].filterMap (fun i => lw_tbl[i]?) := by decide +kernel
set_option maxRecDepth 100000 in
theorem zp_37 : wsL_law_r37 = [816, 818, 22, 819, 1401, 1402, 1403, 1404, 820, 821, 822, 823, 296, 824, 825, 826, 827, 828, 829, 830, 146, 125, 152, 831].filterMap (fun i => lw_tbl[i]?) := by decide +kernel
set_option maxRecDepth 100000 in
theorem zp_38 : wsL_law_r38 = [833, 23, 834, 1405, 1406, 1407, 1408, 1409, 1410, 1411, 1412, 1413, 1414, 1416, 54, 1417, 1051, 1052, 835, 836, 837, 838, 300, 298].filterMap (fun i => lw_tbl[i]?) := by decide +kernel
set_option maxRecDepth 100000 in
theorem zp_39 : wsL_law_r39 = [839, 840, 841, 842, 843, 844, 845, 846, 847, 848, 849, 850, 1418, 1419, 1420, 1421, 1422, 851, 852, 853, 854, 855, 856, 857].filterMap (fun i => lw_tbl[i]?) := by decide +kernel
set_option maxRecDepth 100000 in
theorem zp_40 : wsL_law_r40 = [858, 859, 860, 863, 861, 862, 1423, 1424, 1425, 1426, 1427, 1428, 1429, 1431, 55, 1432, 864, 865, 866, 867, 1433, 1434, 1435, 1436].filterMap (fun i => lw_tbl[i]?) := by decide +kernel
set_option maxRecDepth 100000 in
theorem zp_41 : wsL_law_r41 = [868, 869, 870, 871, 1437, 1438, 1439, 1440, 872, 873, 874, 875, 876, 877, 878, 879, 880, 881, 882, 883, 884, 1441, 1442, 1443].filterMap (fun i => lw_tbl[i]?) := by decide +kernel
set_option maxRecDepth 100000 in
theorem zp_42 : wsL_law_r42 = [1444, 1445, 1447, 56, 1448, 885, 886, 887, 888, 315, 317, 889, 890, 891, 892, 145, 126, 153, 893, 1449, 1450, 1451, 1452, 1054].filterMap (fun i => lw_tbl[i]?) := by decide +kernel
set_option maxRecDepth 100000 in
theorem zp_43 : wsL_law_r43 = [1453, 1455, 57, 1456, 894, 895, 896, 897, 898, 899, 900, 901, 902, 904, 24, 905, 1457, 1458, 1459, 1460, 906, 907, 908, 909].filterMap (fun i => lw_tbl[i]?) := by decide +kernel
set_option maxRecDepth 100000 in
theorem zp_44 : wsL_law_r44 = [910, 911, 912, 913, 1461, 1462, 1463, 1464, 914, 915, 916, 917, 1465, 1466, 1467, 1468, 918, 919, 920, 921, 341, 343, 922, 923].filterMap (fun i => lw_tbl[i]?) := by decide +kernel
set_option maxRecDepth 100000 in
theorem zp_45 : wsL_law_r45 = [924, 925, 926, 928, 25, 929, 930, 931, 932, 933, 934, 935, 936, 937, 939, 940, 942, 26, 943, 944, 946, 27, 947, 1469].filterMap (fun i => lw_tbl[i]?) := by decide +kernel
set_option maxRecDepth 100000 in
theorem zp_46 : wsL_law_r46 = [1470, 1471, 1472, 1473, 1475, 58, 1476, 1477, 1479, 59, 1480, 948, 949, 950, 951, 952, 953, 954, 955, 956, 957, 958, 959, 960].filterMap (fun i => lw_tbl[i]?) := by decide +kernel
set_option maxRecDepth 100000 in
theorem zp_47 : wsL_law_r47 = [961, 962, 963, 1481, 1482, 1483, 1484, 1485, 1486, 1487, 964, 965, 966, 967, 968, 969, 970, 971, 972, 973, 974, 1488, 1489, 1490].filterMap (fun i => lw_tbl[i]?) := by decide +kernel
set_option maxRecDepth 100000 in
theorem zp_48 : wsL_law_r48 = [1491, 975, 976, 977, 978, 979, 980, 981, 982, 983, 984, 985, 986, 987, 115, 989, 990, 991, 988, 1492, 1493, 1494, 1495, 992].filterMap (fun i => lw_tbl[i]?) := by decide +kernel
set_option maxRecDepth 100000 in
theorem zp_49 : wsL_law_r49 = [993, 994, 995, 366, 129, 1496, 1497, 1498, 1499, 1500].filterMap (fun i => lw_tbl[i]?) := by decide +kernel
set_option maxRecDepth 100000 in
theorem zgood : GoodIn wsL_law wsL_law := fun w hw => ⟨hw, good_of_word (List.all_eq_true.mp (by decide +kernel : wsL_law.all goodWord = true) w hw)⟩
