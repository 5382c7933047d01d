/-! the tables of this class, checked -/
noncomputable def xt_JL : List (List xv_J) := [[((yX0_init, cX0_init, 1, none), 0, 2, 260, 103, 259, 0), ((yX0_begin, cX0_begin, 2, none), 1, 1, 685, 103, 683, 684), ((yX0_takeOver, cX0_takeOver, 2, none), 1, 1, 1308, 103, 1306, 1307), ((yX0_isFull, cX0_isFull, 1, (some .boolean)), 0, 1, 1187, 103, 1185, 1186), ((yX0_hasConfessed, cX0_hasConfessed, 2, (some .boolean)), 1, 1, 1183, 103, 1181, 1182), ((yX0_addConfession, cX0_addConfession, 4, (some .int)), 2, 1, 1191, 103, 1189, 1190), ((yX0_addClearing, cX0_addClearing, 3, none), 2, 1, 1203, 103, 1201, 1202), ((yX0_log, cX0_log, 3, none), 2, 1, 1195, 103, 1194, 33), ((yX0_change, cX0_change, 4, none), 2, 1, 1207, 103, 1206, 34), ((yX0_takeBack, cX0_takeBack, 3, none), 1, 1, 1231, 103, 1229, 1230), ((yX1_init, cX1_init, 2, none), 1, 2, 317, 106, 316, 0), ((yX1_seat, cX1_seat, 4, none), 1, 1, 856, 106, 854, 855), ((yX1_allSeats, cX1_allSeats, 1, (some .int)), 0, 1, 865, 106, 863, 864), ((yX1_node, cX1_node, 2, (some .int)), 2, 0, 876, 106, 875, 0), ((yX1_isNode, cX1_isNode, 3, (some .boolean)), 2, 1, 869, 106, 867, 868), ((yX2_init, cX2_init, 1, none), 0, 2, 139, 102, 138, 0), ((yX2_forget, cX2_forget, 2, none), 0, 1, 536, 102, 534, 535), ((yX2_takeOver, cX2_takeOver, 3, none), 1, 1, 678, 102, 676, 677), ((yX2_isNone, cX2_isNone, 1, (some .boolean)), 0, 1, 801, 102, 799, 800), ((yX2_hasPenance, cX2_hasPenance, 2, (some .boolean)), 1, 1, 665, 102, 663, 664)],
  [((yX2_hasPenanceOrNone, cX2_hasPenanceOrNone, 2, (some .boolean)), 1, 1, 718, 102, 716, 717), ((yX2_hasPerson, cX2_hasPerson, 2, (some .boolean)), 1, 1, 661, 102, 659, 660), ((yX2_hasBox, cX2_hasBox, 2, (some .boolean)), 1, 1, 730, 102, 728, 729), ((yX2_hasHour, cX2_hasHour, 2, (some .boolean)), 1, 1, 921, 102, 919, 920), ((yX2_putGrudge, cX2_putGrudge, 4, none), 3, 1, 657, 102, 655, 656), ((yX2_grudge, cX2_grudge, 3, (some .int)), 2, 1, 710, 102, 708, 709), ((yX2_costOf, cX2_costOf, 3, (some .int)), 2, 1, 722, 102, 720, 721), ((yX2_personsOf, cX2_personsOf, 4, (some .int)), 1, 1, 787, 102, 785, 786), ((yX2_isAhead, cX2_isAhead, 4, (some .boolean)), 3, 1, 746, 102, 745, 15), ((yX2_placeOf, cX2_placeOf, 4, (some .int)), 1, 1, 742, 102, 740, 741), ((yX2_inQueue, cX2_inQueue, 4, (some .int)), 2, 1, 738, 102, 736, 737), ((yX2_rightAhead, cX2_rightAhead, 8, (some .int)), 4, 1, 758, 102, 757, 16), ((yX2_forerunner, cX2_forerunner, 2, (some .int)), 1, 1, 766, 102, 764, 765), ((yX2_gotBy, cX2_gotBy, 5, (some .int)), 2, 1, 754, 102, 752, 753), ((yX2_leftBehind, cX2_leftBehind, 3, (some .int)), 1, 1, 779, 102, 777, 778), ((yX2_costsOf, cX2_costsOf, 4, (some .int)), 1, 1, 791, 102, 789, 790), ((yX2_loss, cX2_loss, 2, (some .int)), 1, 1, 809, 102, 807, 808), ((yX2_costsIfSin, cX2_costsIfSin, 5, (some .int)), 2, 1, 838, 102, 836, 837), ((yX2_bestSin, cX2_bestSin, 6, (some .int)), 1, 1, 833, 102, 831, 832), ((yX2_costInHour, cX2_costInHour, 5, (some .int)), 2, 1, 925, 102, 923, 924)],
  [((yX2_bestHour, cX2_bestHour, 6, (some .int)), 1, 1, 933, 102, 931, 932), ((yX2_restless, cX2_restless, 3, (some .int)), 0, 1, 942, 102, 940, 941), ((yX2_firstOf, cX2_firstOf, 3, (some .int)), 1, 1, 956, 102, 955, 21), ((yX2_settleDown, cX2_settleDown, 3, (some .int)), 0, 1, 951, 102, 949, 950), ((yX2_comers, cX2_comers, 7, (some .int)), 1, 1, 1247, 102, 1245, 1246), ((yX2_fateOf, cX2_fateOf, 5, (some .int)), 2, 1, 1260, 102, 1258, 1259), ((yX3_init, cX3_init, 2, none), 1, 2, 439, 110, 438, 0), ((yX3_weigh, cX3_weigh, 5, none), 0, 1, 1010, 110, 1008, 1009), ((yX3_costsWith, cX3_costsWith, 3, (some .int)), 2, 1, 1016, 110, 1015, 25), ((yX3_shareOf, cX3_shareOf, 5, (some .int)), 1, 1, 1032, 110, 1030, 1031), ((yX3_firstShare, cX3_firstShare, 5, (some .int)), 1, 1, 1036, 110, 1035, 26), ((yX3_isLess, cX3_isLess, 2, (some .boolean)), 2, 0, 1039, 110, 1038, 0), ((yX4_init, cX4_init, 1, none), 0, 2, 1290, 120, 1289, 0), ((yX5_init, cX5_init, 1, none), 0, 2, 456, 111, 455, 0), ((yX5_expect, cX5_expect, 18, none), 5, 1, 1148, 111, 1146, 1147), ((yX5_put, cX5_put, 7, none), 2, 1, 1153, 111, 1151, 1152), ((yX5_commonDivisor, cX5_commonDivisor, 11, (some .long)), 2, 0, 1156, 111, 1155, 0), ((yX5_isBelow, cX5_isBelow, 2, (some .boolean)), 1, 1, 1164, 111, 1162, 1163), ((yX5_cut, cX5_cut, 1, (some .int)), 0, 1, 1175, 111, 1173, 1174), ((yX6_init, cX6_init, 2, none), 1, 2, 352, 107, 351, 0)],
  [((yX6_weigh, cX6_weigh, 4, none), 0, 1, 861, 107, 859, 860), ((yX6_weighNode, cX6_weighNode, 6, none), 3, 1, 873, 107, 872, 18), ((yX6_goOn, cX6_goOn, 8, none), 4, 1, 881, 107, 880, 19), ((yX6_personAt, cX6_personAt, 6, (some .int)), 1, 1, 893, 107, 891, 892), ((yX6_firstSeat, cX6_firstSeat, 6, (some .int)), 2, 1, 897, 107, 896, 20), ((yX7_init, cX7_init, 1, none), 0, 2, 133, 101, 132, 0), ((yX7_hasRoom, cX7_hasRoom, 1, (some .boolean)), 0, 1, 516, 101, 514, 515), ((yX7_addNumber, cX7_addNumber, 3, none), 1, 1, 520, 101, 518, 519), ((yX7_readAll, cX7_readAll, 2, none), 0, 1, 532, 101, 530, 531), ((yX7_readLine, cX7_readLine, 1, (some .boolean)), 0, 1, 557, 101, 556, 3), ((yX7_readHead, cX7_readHead, 1, (some .boolean)), 0, 1, 561, 101, 560, 4), ((yX7_readPenance, cX7_readPenance, 2, (some .boolean)), 0, 1, 638, 101, 637, 10), ((yX7_readPerson, cX7_readPerson, 2, (some .boolean)), 0, 1, 644, 101, 643, 11), ((yX7_readGrudges, cX7_readGrudges, 3, (some .boolean)), 0, 1, 652, 101, 651, 12), ((yX7_readLeft, cX7_readLeft, 2, (some .boolean)), 0, 1, 670, 101, 669, 13), ((yX7_passSign, cX7_passSign, 1, (some .boolean)), 0, 1, 674, 101, 673, 14), ((yX7_passWord, cX7_passWord, 2, (some .boolean)), 1, 1, 566, 101, 565, 5), ((yX7_passNumber, cX7_passNumber, 2, (some .int)), 0, 1, 631, 101, 630, 9), ((yX7_isNumber, cX7_isNumber, 3, (some .boolean)), 2, 1, 627, 101, 626, 8), ((yX7_isWord, cX7_isWord, 3, (some .boolean)), 1, 1, 570, 101, 569, 6)],
  [((yX7_refuse, cX7_refuse, 2, (some .boolean)), 1, 1, 622, 101, 621, 7), ((yX7_step, cX7_step, 2, none), 0, 1, 541, 101, 540, 0), ((yX7_takeValue, cX7_takeValue, 2, none), 0, 1, 549, 101, 548, 2), ((yX7_kindAt, cX7_kindAt, 3, (some .int)), 1, 1, 545, 101, 544, 1), ((yX8_init, cX8_init, 1, none), 0, 2, 289, 104, 288, 0), ((yX8_isSlot, cX8_isSlot, 2, (some .boolean)), 1, 1, 1051, 104, 1049, 1050), ((yX8_hasRow, cX8_hasRow, 2, (some .boolean)), 1, 1, 1055, 104, 1053, 1054), ((yX8_howMany, cX8_howMany, 3, (some .int)), 0, 1, 1281, 104, 1279, 1280), ((yX8_lay, cX8_lay, 4, none), 3, 1, 1320, 104, 1318, 1319), ((yX8_put, cX8_put, 5, none), 3, 1, 1331, 104, 1329, 1330), ((yX8_cutTo, cX8_cutTo, 3, (some .long)), 2, 0, 1334, 104, 1333, 0), ((yX8_holds, cX8_holds, 4, (some .boolean)), 3, 1, 1342, 104, 1340, 1341), ((yX8_tellsHowOften, cX8_tellsHowOften, 8, (some .boolean)), 2, 1, 1143, 104, 1141, 1142), ((yX9_init, cX9_init, 2, none), 1, 2, 382, 108, 381, 0), ((yX9_kindOf, cX9_kindOf, 1, (some .int)), 1, 0, 1072, 108, 1071, 0), ((yX9_note, cX9_note, 8, (some .boolean)), 2, 1, 1060, 108, 1058, 1059), ((yX9_inBounds, cX9_inBounds, 3, (some .int)), 2, 0, 1064, 108, 1063, 0), ((yX9_isSeated, cX9_isSeated, 2, (some .boolean)), 1, 1, 1069, 108, 1068, 28), ((yX9_tally, cX9_tally, 4, none), 0, 1, 1076, 108, 1074, 1075), ((yX9_fitsBehind, cX9_fitsBehind, 4, (some .boolean)), 3, 1, 1086, 108, 1085, 30)],
  [((yX9_countRest, cX9_countRest, 6, none), 3, 1, 1082, 108, 1081, 29), ((yX9_countOn, cX9_countOn, 8, none), 2, 1, 1091, 108, 1090, 31), ((yX9_total, cX9_total, 1, (some .int)), 0, 1, 1095, 108, 1093, 1094), ((yX9_possible, cX9_possible, 4, (some .int)), 1, 1, 1107, 108, 1105, 1106), ((yX9_leftAtWorst, cX9_leftAtWorst, 4, (some .int)), 1, 1, 1120, 108, 1118, 1119), ((yX9_mostTelling, cX9_mostTelling, 5, (some .int)), 0, 1, 1115, 108, 1113, 1114), ((yX10_init, cX10_init, 1, none), 0, 2, 409, 109, 408, 0), ((yX10_lookAt, cX10_lookAt, 3, none), 1, 1, 968, 109, 966, 967), ((yX10_lane, cX10_lane, 1, (some .long)), 1, 0, 976, 109, 975, 0), ((yX10_fewest, cX10_fewest, 5, (some .int)), 0, 1, 973, 109, 971, 972), ((yX10_findPair, cX10_findPair, 4, none), 0, 1, 985, 109, 983, 984), ((yX10_fewestBehind, cX10_fewestBehind, 4, (some .int)), 2, 1, 990, 109, 989, 22), ((yX10_change, cX10_change, 4, none), 2, 1, 994, 109, 993, 23), ((yX11_init, cX11_init, 1, none), 0, 2, 125, 100, 124, 0), ((yX11_feed, cX11_feed, 6, (some .int)), 5, 1, 512, 100, 510, 511), ((yX11_end, cX11_end, 2, (some .int)), 1, 1, 524, 100, 522, 523), ((yX11_church, cX11_church, 1, (some .int)), 0, 1, 528, 100, 526, 527), ((yX11_fault, cX11_fault, 2, (some .int)), 1, 1, 692, 100, 690, 691), ((yX11_penance, cX11_penance, 2, (some .int)), 1, 1, 696, 100, 694, 695), ((yX11_person, cX11_person, 3, (some .int)), 2, 1, 701, 100, 699, 700)],
  [((yX11_minds, cX11_minds, 3, (some .int)), 2, 1, 706, 100, 704, 705), ((yX11_cost, cX11_cost, 3, (some .int)), 2, 1, 714, 100, 712, 713), ((yX11_box, cX11_box, 2, (some .int)), 1, 1, 726, 100, 724, 725), ((yX11_queue, cX11_queue, 3, (some .int)), 2, 1, 734, 100, 732, 733), ((yX11_gets, cX11_gets, 2, (some .int)), 1, 1, 750, 100, 748, 749), ((yX11_giver, cX11_giver, 2, (some .int)), 1, 1, 762, 100, 760, 761), ((yX11_back, cX11_back, 3, (some .int)), 2, 1, 770, 100, 768, 769), ((yX11_last, cX11_last, 2, (some .int)), 1, 1, 775, 100, 773, 774), ((yX11_bears, cX11_bears, 2, (some .int)), 1, 1, 783, 100, 781, 782), ((yX11_own, cX11_own, 3, (some .int)), 0, 1, 797, 100, 795, 796), ((yX11_gain, cX11_gain, 3, (some .int)), 0, 1, 805, 100, 803, 804), ((yX11_worst, cX11_worst, 5, (some .int)), 0, 1, 813, 100, 811, 812), ((yX11_passes, cX11_passes, 4, (some .int)), 1, 1, 817, 100, 815, 816), ((yX11_ahead, cX11_ahead, 2, (some .int)), 1, 1, 821, 100, 819, 820), ((yX11_kneel, cX11_kneel, 8, (some .int)), 1, 1, 825, 100, 823, 824), ((yX11_sins, cX11_sins, 2, (some .int)), 1, 1, 829, 100, 827, 828), ((yX11_sinned, cX11_sinned, 2, (some .int)), 1, 1, 844, 100, 842, 843), ((yX11_best, cX11_best, 2, (some .int)), 1, 1, 848, 100, 846, 847), ((yX11_orders, cX11_orders, 3, (some .int)), 2, 1, 889, 100, 887, 888), ((yX11_most, cX11_most, 2, (some .int)), 1, 1, 901, 100, 899, 900)],
  [((yX11_fair, cX11_fair, 2, (some .int)), 1, 1, 905, 100, 903, 904), ((yX11_likes, cX11_likes, 2, (some .int)), 1, 1, 909, 100, 907, 908), ((yX11_ways, cX11_ways, 2, (some .int)), 1, 1, 913, 100, 911, 912), ((yX11_weighs, cX11_weighs, 2, (some .boolean)), 1, 1, 852, 100, 851, 17), ((yX11_comes, cX11_comes, 3, (some .int)), 2, 1, 917, 100, 915, 916), ((yX11_hour, cX11_hour, 2, (some .int)), 1, 1, 929, 100, 927, 928), ((yX11_stir, cX11_stir, 1, (some .int)), 0, 1, 938, 100, 936, 937), ((yX11_settles, cX11_settles, 1, (some .int)), 0, 1, 947, 100, 945, 946), ((yX11_settled, cX11_settled, 2, (some .int)), 1, 1, 960, 100, 958, 959), ((yX11_swaps, cX11_swaps, 1, (some .int)), 0, 1, 964, 100, 962, 963), ((yX11_swap, cX11_swap, 2, (some .int)), 1, 1, 981, 100, 979, 980), ((yX11_trades, cX11_trades, 4, (some .int)), 0, 1, 998, 100, 996, 997), ((yX11_wouldTrade, cX11_wouldTrade, 5, (some .boolean)), 2, 1, 1002, 100, 1001, 24), ((yX11_deal, cX11_deal, 1, (some .int)), 0, 1, 1006, 100, 1004, 1005), ((yX11_dealt, cX11_dealt, 2, (some .int)), 1, 1, 1028, 100, 1026, 1027), ((yX11_fits, cX11_fits, 4, (some .int)), 2, 1, 1043, 100, 1041, 1042), ((yX11_firsts, cX11_firsts, 4, (some .int)), 2, 1, 1099, 100, 1097, 1098), ((yX11_may, cX11_may, 5, (some .int)), 3, 1, 1103, 100, 1101, 1102), ((yX11_ask, cX11_ask, 4, (some .int)), 2, 1, 1111, 100, 1109, 1110), ((yX11_leaves, cX11_leaves, 5, (some .int)), 2, 1, 1125, 100, 1123, 1124)],
  [((yX11_compare, cX11_compare, 3, (some .int)), 2, 1, 1047, 100, 1046, 27), ((yX11_mean, cX11_mean, 4, (some .long)), 3, 1, 1130, 100, 1128, 1129), ((yX11_choose, cX11_choose, 4, (some .int)), 1, 1, 1160, 100, 1158, 1159), ((yX11_pass, cX11_pass, 6, (some .long)), 4, 1, 1134, 100, 1132, 1133), ((yX11_takes, cX11_takes, 5, (some .int)), 3, 1, 1170, 100, 1168, 1169), ((yX11_whyNoMean, cX11_whyNoMean, 4, (some .int)), 3, 1, 1139, 100, 1138, 32), ((yX11_confess, cX11_confess, 2, (some .int)), 1, 1, 1179, 100, 1177, 1178), ((yX11_clear, cX11_clear, 3, (some .int)), 2, 1, 1199, 100, 1197, 1198), ((yX11_now, cX11_now, 2, (some .int)), 1, 1, 1211, 100, 1209, 1210), ((yX11_has, cX11_has, 2, (some .int)), 1, 1, 1215, 100, 1213, 1214), ((yX11_done, cX11_done, 1, (some .int)), 0, 1, 1219, 100, 1217, 1218), ((yX11_sum, cX11_sum, 3, (some .int)), 0, 1, 1223, 100, 1221, 1222), ((yX11_undo, cX11_undo, 1, (some .int)), 0, 1, 1227, 100, 1225, 1226), ((yX11_anew, cX11_anew, 2, (some .int)), 0, 1, 1235, 100, 1233, 1234), ((yX11_drawn, cX11_drawn, 4, (some .int)), 2, 1, 1239, 100, 1237, 1238), ((yX11_fate, cX11_fate, 3, (some .int)), 2, 1, 1256, 100, 1254, 1255), ((yX11_luck, cX11_luck, 7, (some .int)), 3, 1, 1265, 100, 1263, 1264), ((yX11_isSeed, cX11_isSeed, 1, (some .boolean)), 1, 0, 1242, 100, 1241, 0), ((yX11_set, cX11_set, 4, (some .int)), 2, 1, 1269, 100, 1267, 1268), ((yX11_move, cX11_move, 4, (some .int)), 2, 1, 1273, 100, 1271, 1272)],
  [((yX11_count, cX11_count, 2, (some .int)), 1, 1, 1277, 100, 1275, 1276), ((yX11_image, cX11_image, 3, (some .int)), 1, 1, 1286, 100, 1284, 1285), ((yX11_again, cX11_again, 3, (some .int)), 1, 1, 1312, 100, 1310, 1311), ((yX11_row, cX11_row, 4, (some .int)), 3, 1, 1316, 100, 1314, 1315), ((yX11_write, cX11_write, 5, (some .int)), 3, 1, 1327, 100, 1325, 1326), ((yX11_paste, cX11_paste, 6, (some .int)), 5, 1, 1338, 100, 1336, 1337), ((yX12_init, cX12_init, 2, none), 0, 2, 1348, 112, 1347, 0), ((yX12_in, cX12_in, 6, (some .boolean)), 3, 0, 1488, 112, 1487, 0), ((yX12_isSlot, cX12_isSlot, 1, (some .boolean)), 1, 0, 1484, 112, 1483, 0), ((yX12_row, cX12_row, 5, (some .int)), 3, 1, 1481, 112, 1479, 1480), ((yX12_cut, cX12_cut, 3, (some .long)), 2, 0, 1495, 112, 1494, 0), ((yX12_write, cX12_write, 5, (some .int)), 3, 1, 1492, 112, 1490, 1491), ((yX12_paste, cX12_paste, 7, (some .int)), 5, 1, 1499, 112, 1497, 1498), ((yX12_feed, cX12_feed, 6, (some .int)), 5, 1, 1503, 112, 1501, 1502), ((yX12_four, cX12_four, 3, none), 1, 1, 1507, 112, 1506, 35), ((yX12_end, cX12_end, 2, (some .int)), 1, 1, 1511, 112, 1509, 1510), ((yX12_isByte, cX12_isByte, 4, (some .boolean)), 3, 1, 1539, 112, 1538, 40), ((yX12_next, cX12_next, 2, none), 0, 1, 1535, 112, 1534, 39), ((yX12_isGood, cX12_isGood, 1, (some .boolean)), 0, 1, 1548, 112, 1547, 41), ((yX12_fails, cX12_fails, 2, none), 1, 1, 1565, 112, 1564, 45)],
  [((yX12_is, cX12_is, 3, (some .boolean)), 1, 1, 1561, 112, 1560, 44), ((yX12_takes, cX12_takes, 3, (some .boolean)), 1, 1, 1557, 112, 1556, 43), ((yX12_asks, cX12_asks, 3, none), 1, 1, 1553, 112, 1552, 42), ((yX12_number, cX12_number, 4, (some .int)), 2, 1, 1574, 112, 1573, 47), ((yX12_number_, cX12_number_, 5, (some .int)), 3, 1, 1570, 112, 1569, 46), ((yX12_ends, cX12_ends, 1, none), 0, 1, 1613, 112, 1612, 54), ((yX12_begins, cX12_begins, 1, none), 0, 1, 1531, 112, 1530, 38), ((yX12_isOver, cX12_isOver, 1, none), 0, 1, 1617, 112, 1616, 55), ((yX12_fault, cX12_fault, 2, (some .int)), 1, 1, 1515, 112, 1513, 1514), ((yX12_hasRead, cX12_hasRead, 2, (some .int)), 1, 1, 1589, 112, 1588, 50), ((yX12_tells, cX12_tells, 3, none), 2, 1, 1527, 112, 1526, 37), ((yX12_penanceHere, cX12_penanceHere, 1, (some .int)), 0, 1, 1600, 112, 1599, 52), ((yX12_boxHere, cX12_boxHere, 1, (some .int)), 0, 1, 1606, 112, 1605, 53), ((yX12_personLine, cX12_personLine, 4, none), 0, 1, 1595, 112, 1594, 51), ((yX12_isRoom, cX12_isRoom, 4, (some .boolean)), 3, 1, 1585, 112, 1584, 49), ((yX12_line, cX12_line, 3, none), 0, 1, 1580, 112, 1579, 48), ((yX12_clears, cX12_clears, 2, none), 0, 1, 1523, 112, 1522, 36), ((yX12_church, cX12_church, 1, (some .int)), 0, 1, 1519, 112, 1517, 1518), ((yX12_copyRow, cX12_copyRow, 5, none), 4, 0, 1624, 112, 1623, 0), ((yX12_copyChurch, cX12_copyChurch, 3, none), 2, 1, 1621, 112, 1620, 56)],
  [((yX12_isChurch, cX12_isChurch, 1, (some .boolean)), 0, 1, 1728, 112, 1727, 69), ((yX12_isPenance, cX12_isPenance, 3, (some .boolean)), 1, 1, 1632, 112, 1631, 57), ((yX12_isPerson, cX12_isPerson, 3, (some .boolean)), 1, 1, 1640, 112, 1639, 58), ((yX12_isBox, cX12_isBox, 2, (some .boolean)), 1, 1, 1660, 112, 1659, 60), ((yX12_isHour, cX12_isHour, 2, (some .boolean)), 1, 1, 1815, 112, 1814, 75), ((yX12_isBit, cX12_isBit, 2, (some .boolean)), 2, 0, 1695, 112, 1694, 0), ((yX12_sinOf, cX12_sinOf, 2, (some .int)), 1, 1, 1699, 112, 1698, 67), ((yX12_boxOf, cX12_boxOf, 2, (some .int)), 1, 1, 1676, 112, 1675, 63), ((yX12_costOf, cX12_costOf, 3, (some .int)), 2, 1, 1652, 112, 1651, 59), ((yX12_everybody, cX12_everybody, 1, (some .int)), 0, 1, 1672, 112, 1671, 62), ((yX12_of, cX12_of, 4, (some .int)), 1, 1, 1777, 112, 1776, 73), ((yX12_lays, cX12_lays, 2, none), 0, 1, 1668, 112, 1667, 61), ((yX12_isAhead, cX12_isAhead, 3, (some .boolean)), 2, 1, 1680, 112, 1679, 64), ((yX12_aheadOf, cX12_aheadOf, 4, (some .int)), 1, 1, 1692, 112, 1691, 66), ((yX12_getsOf, cX12_getsOf, 3, (some .int)), 1, 1, 1688, 112, 1687, 65), ((yX12_hasCost, cX12_hasCost, 2, (some .int)), 1, 1, 1720, 112, 1719, 68), ((yX12_penance, cX12_penance, 2, (some .int)), 1, 1, 1628, 112, 1626, 1627), ((yX12_person, cX12_person, 3, (some .int)), 2, 1, 1636, 112, 1634, 1635), ((yX12_minds, cX12_minds, 3, (some .int)), 2, 1, 1644, 112, 1642, 1643), ((yX12_cost, cX12_cost, 3, (some .int)), 2, 1, 1648, 112, 1646, 1647)],
  [((yX12_box, cX12_box, 2, (some .int)), 1, 1, 1656, 112, 1654, 1655), ((yX12_queue, cX12_queue, 6, (some .int)), 2, 1, 1664, 112, 1662, 1663), ((yX12_gets, cX12_gets, 2, (some .int)), 1, 1, 1684, 112, 1682, 1683), ((yX12_giver, cX12_giver, 2, (some .int)), 1, 1, 1703, 112, 1701, 1702), ((yX12_back, cX12_back, 5, (some .int)), 2, 1, 1707, 112, 1705, 1706), ((yX12_last, cX12_last, 4, (some .int)), 1, 1, 1712, 112, 1710, 1711), ((yX12_bears, cX12_bears, 4, (some .int)), 1, 1, 1716, 112, 1714, 1715), ((yX12_own, cX12_own, 3, (some .int)), 0, 1, 1724, 112, 1722, 1723), ((yX12_gain, cX12_gain, 3, (some .int)), 0, 1, 1732, 112, 1730, 1731), ((yX12_worst, cX12_worst, 5, (some .int)), 0, 1, 1736, 112, 1734, 1735), ((yX12_passes, cX12_passes, 4, (some .int)), 1, 1, 1740, 112, 1738, 1739), ((yX12_ahead, cX12_ahead, 4, (some .int)), 1, 1, 1744, 112, 1742, 1743), ((yX12_kneel, cX12_kneel, 6, (some .int)), 1, 1, 1748, 112, 1746, 1747), ((yX12_sinnedOf, cX12_sinnedOf, 7, (some .int)), 1, 1, 1756, 112, 1755, 70), ((yX12_sins, cX12_sins, 2, (some .int)), 1, 1, 1752, 112, 1750, 1751), ((yX12_sinned, cX12_sinned, 2, (some .int)), 1, 1, 1761, 112, 1759, 1760), ((yX12_stepOf, cX12_stepOf, 6, (some .int)), 4, 1, 1781, 112, 1780, 74), ((yX12_joined, cX12_joined, 3, (some .int)), 3, 0, 1784, 112, 1783, 0), ((yX12_isBetter, cX12_isBetter, 3, (some .boolean)), 3, 0, 1787, 112, 1786, 0), ((yX12_laysOrders, cX12_laysOrders, 11, none), 2, 1, 1773, 112, 1772, 72)],
  [((yX12_bestBy, cX12_bestBy, 3, (some .int)), 2, 1, 1769, 112, 1768, 71), ((yX12_best, cX12_best, 2, (some .int)), 1, 1, 1765, 112, 1763, 1764), ((yX12_orders, cX12_orders, 8, (some .int)), 2, 1, 1791, 112, 1789, 1790), ((yX12_most, cX12_most, 2, (some .int)), 1, 1, 1795, 112, 1793, 1794), ((yX12_fair, cX12_fair, 2, (some .int)), 1, 1, 1799, 112, 1797, 1798), ((yX12_likes, cX12_likes, 2, (some .int)), 1, 1, 1803, 112, 1801, 1802), ((yX12_ways, cX12_ways, 2, (some .int)), 1, 1, 1807, 112, 1805, 1806), ((yX12_comesIn, cX12_comesIn, 5, (some .int)), 2, 1, 1819, 112, 1818, 76), ((yX12_hourOf, cX12_hourOf, 4, (some .int)), 1, 1, 1827, 112, 1826, 77), ((yX12_stirs, cX12_stirs, 2, (some .boolean)), 1, 1, 1835, 112, 1834, 78), ((yX12_comes, cX12_comes, 3, (some .int)), 2, 1, 1811, 112, 1809, 1810), ((yX12_hour, cX12_hour, 2, (some .int)), 1, 1, 1823, 112, 1821, 1822), ((yX12_stir, cX12_stir, 3, (some .int)), 0, 1, 1831, 112, 1829, 1830), ((yX12_settle, cX12_settle, 3, (some .int)), 0, 1, 1843, 112, 1842, 79), ((yX12_settles, cX12_settles, 1, (some .int)), 0, 1, 1839, 112, 1837, 1838), ((yX12_settled, cX12_settled, 2, (some .int)), 1, 1, 1847, 112, 1845, 1846), ((yX12_laysGot, cX12_laysGot, 2, none), 0, 1, 1855, 112, 1854, 80), ((yX12_rings, cX12_rings, 5, (some .int)), 0, 1, 1867, 112, 1866, 83), ((yX12_deals, cX12_deals, 4, none), 2, 1, 1863, 112, 1862, 82), ((yX12_fewestSwaps, cX12_fewestSwaps, 1, (some .int)), 0, 1, 1859, 112, 1858, 81)],
  [((yX12_swaps, cX12_swaps, 1, (some .int)), 0, 1, 1851, 112, 1849, 1850), ((yX12_changes, cX12_changes, 4, none), 2, 1, 1875, 112, 1874, 84), ((yX12_swap, cX12_swap, 6, (some .int)), 1, 1, 1871, 112, 1869, 1870), ((yX12_trades, cX12_trades, 4, (some .int)), 0, 1, 1879, 112, 1877, 1878), ((yX12_laysDeal, cX12_laysDeal, 6, none), 0, 1, 1887, 112, 1886, 85), ((yX12_deal, cX12_deal, 1, (some .int)), 0, 1, 1883, 112, 1881, 1882), ((yX12_dealOf, cX12_dealOf, 6, (some .int)), 2, 1, 1895, 112, 1894, 86), ((yX12_dealt, cX12_dealt, 4, (some .int)), 1, 1, 1891, 112, 1889, 1890), ((yX12_whyNot, cX12_whyNot, 5, (some .int)), 2, 1, 1903, 112, 1902, 87), ((yX12_laysFits, cX12_laysFits, 6, none), 2, 1, 1907, 112, 1906, 88), ((yX12_comesNext, cX12_comesNext, 6, none), 4, 1, 1911, 112, 1910, 89), ((yX12_fits, cX12_fits, 4, (some .int)), 2, 1, 1899, 112, 1897, 1898), ((yX12_firsts, cX12_firsts, 6, (some .int)), 2, 1, 1915, 112, 1913, 1914), ((yX12_may, cX12_may, 7, (some .int)), 3, 1, 1919, 112, 1917, 1918), ((yX12_laysAsk, cX12_laysAsk, 6, none), 2, 1, 1927, 112, 1926, 90), ((yX12_ask, cX12_ask, 4, (some .int)), 2, 1, 1923, 112, 1921, 1922), ((yX12_leaves, cX12_leaves, 4, (some .int)), 2, 1, 1931, 112, 1929, 1930), ((yX12_whyNotMean, cX12_whyNotMean, 4, (some .int)), 2, 1, 1939, 112, 1938, 91), ((yX12_allOf, cX12_allOf, 5, (some .long)), 1, 1, 1944, 112, 1943, 92), ((yX12_common, cX12_common, 4, (some .long)), 2, 0, 1954, 112, 1953, 0)],
  [((yX12_part, cX12_part, 5, (some .long)), 3, 0, 1951, 112, 1950, 0), ((yX12_passOf, cX12_passOf, 14, (some .long)), 3, 1, 1948, 112, 1947, 93), ((yX12_mean, cX12_mean, 5, (some .long)), 3, 1, 1935, 112, 1933, 1934), ((yX12_choose, cX12_choose, 10, (some .int)), 1, 1, 1958, 112, 1956, 1957), ((yX12_pass, cX12_pass, 6, (some .long)), 4, 1, 1962, 112, 1960, 1961), ((yX12_takes_, cX12_takes_, 5, (some .int)), 3, 1, 1967, 112, 1965, 1966), ((yX12_laysNow, cX12_laysNow, 5, none), 0, 1, 1975, 112, 1974, 94), ((yX12_isFull, cX12_isFull, 1, (some .boolean)), 0, 1, 1979, 112, 1978, 95), ((yX12_acts, cX12_acts, 3, none), 2, 1, 1983, 112, 1982, 96), ((yX12_confess, cX12_confess, 2, (some .int)), 1, 1, 1971, 112, 1969, 1970), ((yX12_clear, cX12_clear, 3, (some .int)), 2, 1, 1987, 112, 1985, 1986), ((yX12_now, cX12_now, 2, (some .int)), 1, 1, 1991, 112, 1989, 1990), ((yX12_has, cX12_has, 2, (some .int)), 1, 1, 1995, 112, 1993, 1994), ((yX12_done, cX12_done, 3, (some .int)), 0, 1, 1999, 112, 1997, 1998), ((yX12_sum, cX12_sum, 3, (some .int)), 0, 1, 2003, 112, 2001, 2002), ((yX12_undo, cX12_undo, 1, (some .int)), 0, 1, 2007, 112, 2005, 2006), ((yX12_anew, cX12_anew, 2, (some .int)), 0, 1, 2011, 112, 2009, 2010), ((yX12_draws, cX12_draws, 6, none), 1, 1, 2024, 112, 2023, 98), ((yX12_isSeed, cX12_isSeed, 2, (some .boolean)), 1, 1, 2019, 112, 2018, 97), ((yX12_drawn, cX12_drawn, 5, (some .int)), 2, 1, 2015, 112, 2013, 2014)],
  [((yX12_fate, cX12_fate, 3, (some .int)), 2, 1, 2033, 112, 2031, 2032), ((yX12_luck, cX12_luck, 6, (some .int)), 3, 1, 2037, 112, 2035, 2036), ((yX12_set, cX12_set, 4, (some .int)), 2, 1, 2041, 112, 2039, 2040), ((yX12_move, cX12_move, 4, (some .int)), 2, 1, 2046, 112, 2044, 2045), ((yX12_count, cX12_count, 4, (some .int)), 1, 1, 2050, 112, 2048, 2049), ((yX12_image, cX12_image, 2, (some .int)), 1, 1, 2054, 112, 2052, 2053), ((yX12_again, cX12_again, 2, (some .int)), 1, 1, 2059, 112, 2057, 2058), ((yJ6_bitCount_0f7a4, cJ6_bitCount_0f7a4, 1, (some .int)), 1, 0, 1019, 119, 1018, 0), ((yJ9_max_7cf53, cJ9_max_7cf53, 2, (some .int)), 2, 0, 884, 113, 883, 0), ((yJ9_min_7cf53, cJ9_min_7cf53, 2, (some .int)), 2, 0, 553, 113, 552, 0), ((yJ7_fill_d0a16, cJ7_fill_d0a16, 5, none), 2, 0, 1323, 105, 1322, 0), ((yJ7_fill_53178, cJ7_fill_53178, 4, none), 2, 0, 295, 105, 294, 0)]]
noncomputable def xt_J : Nat → Option xv_J := fun id => xv_get 20 xt_JL id
set_option maxRecDepth 100000 in
set_option maxHeartbeats 4000000 in
theorem xt_c0_0 : (List.range 5).all (fun j => xv_mB xt_M xt_J (0 + j)) = true := by decide +kernel
set_option maxRecDepth 100000 in
set_option maxHeartbeats 4000000 in
theorem xt_c0_1 : (List.range 5).all (fun j => xv_mB xt_M xt_J (5 + j)) = true := by decide +kernel
set_option maxRecDepth 100000 in
set_option maxHeartbeats 4000000 in
theorem xt_c0_2 : (List.range 5).all (fun j => xv_mB xt_M xt_J (10 + j)) = true := by decide +kernel
set_option maxRecDepth 100000 in
set_option maxHeartbeats 4000000 in
theorem xt_c0_3 : (List.range 5).all (fun j => xv_mB xt_M xt_J (15 + j)) = true := by decide +kernel
set_option maxRecDepth 100000 in
set_option maxHeartbeats 4000000 in
theorem xt_c1_0 : (List.range 5).all (fun j => xv_mB xt_M xt_J (20 + j)) = true := by decide +kernel
set_option maxRecDepth 100000 in
set_option maxHeartbeats 4000000 in
theorem xt_c1_1 : (List.range 5).all (fun j => xv_mB xt_M xt_J (25 + j)) = true := by decide +kernel
set_option maxRecDepth 100000 in
set_option maxHeartbeats 4000000 in
theorem xt_c1_2 : (List.range 5).all (fun j => xv_mB xt_M xt_J (30 + j)) = true := by decide +kernel
set_option maxRecDepth 100000 in
set_option maxHeartbeats 4000000 in
theorem xt_c1_3 : (List.range 5).all (fun j => xv_mB xt_M xt_J (35 + j)) = true := by decide +kernel
set_option maxRecDepth 100000 in
set_option maxHeartbeats 4000000 in
theorem xt_c2_0 : (List.range 5).all (fun j => xv_mB xt_M xt_J (40 + j)) = true := by decide +kernel
set_option maxRecDepth 100000 in
set_option maxHeartbeats 4000000 in
theorem xt_c2_1 : (List.range 5).all (fun j => xv_mB xt_M xt_J (45 + j)) = true := by decide +kernel
set_option maxRecDepth 100000 in
set_option maxHeartbeats 4000000 in
theorem xt_c2_2 : (List.range 5).all (fun j => xv_mB xt_M xt_J (50 + j)) = true := by decide +kernel
set_option maxRecDepth 100000 in
set_option maxHeartbeats 4000000 in
theorem xt_c2_3 : (List.range 5).all (fun j => xv_mB xt_M xt_J (55 + j)) = true := by decide +kernel
set_option maxRecDepth 100000 in
set_option maxHeartbeats 4000000 in
theorem xt_c3_0 : (List.range 5).all (fun j => xv_mB xt_M xt_J (60 + j)) = true := by decide +kernel
set_option maxRecDepth 100000 in
set_option maxHeartbeats 4000000 in
theorem xt_c3_1 : (List.range 5).all (fun j => xv_mB xt_M xt_J (65 + j)) = true := by decide +kernel
set_option maxRecDepth 100000 in
set_option maxHeartbeats 4000000 in
theorem xt_c3_2 : (List.range 5).all (fun j => xv_mB xt_M xt_J (70 + j)) = true := by decide +kernel
set_option maxRecDepth 100000 in
set_option maxHeartbeats 4000000 in
theorem xt_c3_3 : (List.range 5).all (fun j => xv_mB xt_M xt_J (75 + j)) = true := by decide +kernel
set_option maxRecDepth 100000 in
set_option maxHeartbeats 4000000 in
theorem xt_c4_0 : (List.range 5).all (fun j => xv_mB xt_M xt_J (80 + j)) = true := by decide +kernel
set_option maxRecDepth 100000 in
set_option maxHeartbeats 4000000 in
theorem xt_c4_1 : (List.range 5).all (fun j => xv_mB xt_M xt_J (85 + j)) = true := by decide +kernel
set_option maxRecDepth 100000 in
set_option maxHeartbeats 4000000 in
theorem xt_c4_2 : (List.range 5).all (fun j => xv_mB xt_M xt_J (90 + j)) = true := by decide +kernel
set_option maxRecDepth 100000 in
set_option maxHeartbeats 4000000 in
theorem xt_c4_3 : (List.range 5).all (fun j => xv_mB xt_M xt_J (95 + j)) = true := by decide +kernel
set_option maxRecDepth 100000 in
set_option maxHeartbeats 4000000 in
theorem xt_c5_0 : (List.range 5).all (fun j => xv_mB xt_M xt_J (100 + j)) = true := by decide +kernel
set_option maxRecDepth 100000 in
set_option maxHeartbeats 4000000 in
theorem xt_c5_1 : (List.range 5).all (fun j => xv_mB xt_M xt_J (105 + j)) = true := by decide +kernel
set_option maxRecDepth 100000 in
set_option maxHeartbeats 4000000 in
theorem xt_c5_2 : (List.range 5).all (fun j => xv_mB xt_M xt_J (110 + j)) = true := by decide +kernel
set_option maxRecDepth 100000 in
set_option maxHeartbeats 4000000 in
theorem xt_c5_3 : (List.range 5).all (fun j => xv_mB xt_M xt_J (115 + j)) = true := by decide +kernel
set_option maxRecDepth 100000 in
set_option maxHeartbeats 4000000 in
theorem xt_c6_0 : (List.range 5).all (fun j => xv_mB xt_M xt_J (120 + j)) = true := by decide +kernel
set_option maxRecDepth 100000 in
set_option maxHeartbeats 4000000 in
theorem xt_c6_1 : (List.range 5).all (fun j => xv_mB xt_M xt_J (125 + j)) = true := by decide +kernel
set_option maxRecDepth 100000 in
set_option maxHeartbeats 4000000 in
theorem xt_c6_2 : (List.range 5).all (fun j => xv_mB xt_M xt_J (130 + j)) = true := by decide +kernel
set_option maxRecDepth 100000 in
set_option maxHeartbeats 4000000 in
theorem xt_c6_3 : (List.range 5).all (fun j => xv_mB xt_M xt_J (135 + j)) = true := by decide +kernel
set_option maxRecDepth 100000 in
set_option maxHeartbeats 4000000 in
theorem xt_c7_0 : (List.range 5).all (fun j => xv_mB xt_M xt_J (140 + j)) = true := by decide +kernel
set_option maxRecDepth 100000 in
set_option maxHeartbeats 4000000 in
theorem xt_c7_1 : (List.range 5).all (fun j => xv_mB xt_M xt_J (145 + j)) = true := by decide +kernel
set_option maxRecDepth 100000 in
set_option maxHeartbeats 4000000 in
theorem xt_c7_2 : (List.range 5).all (fun j => xv_mB xt_M xt_J (150 + j)) = true := by decide +kernel
set_option maxRecDepth 100000 in
set_option maxHeartbeats 4000000 in
theorem xt_c7_3 : (List.range 5).all (fun j => xv_mB xt_M xt_J (155 + j)) = true := by decide +kernel
set_option maxRecDepth 100000 in
set_option maxHeartbeats 4000000 in
theorem xt_c8_0 : (List.range 5).all (fun j => xv_mB xt_M xt_J (160 + j)) = true := by decide +kernel
set_option maxRecDepth 100000 in
set_option maxHeartbeats 4000000 in
theorem xt_c8_1 : (List.range 5).all (fun j => xv_mB xt_M xt_J (165 + j)) = true := by decide +kernel
set_option maxRecDepth 100000 in
set_option maxHeartbeats 4000000 in
theorem xt_c8_2 : (List.range 5).all (fun j => xv_mB xt_M xt_J (170 + j)) = true := by decide +kernel
set_option maxRecDepth 100000 in
set_option maxHeartbeats 4000000 in
theorem xt_c8_3 : (List.range 5).all (fun j => xv_mB xt_M xt_J (175 + j)) = true := by decide +kernel
set_option maxRecDepth 100000 in
set_option maxHeartbeats 4000000 in
theorem xt_c9_0 : (List.range 5).all (fun j => xv_mB xt_M xt_J (180 + j)) = true := by decide +kernel
set_option maxRecDepth 100000 in
set_option maxHeartbeats 4000000 in
theorem xt_c9_1 : (List.range 5).all (fun j => xv_mB xt_M xt_J (185 + j)) = true := by decide +kernel
set_option maxRecDepth 100000 in
set_option maxHeartbeats 4000000 in
theorem xt_c9_2 : (List.range 5).all (fun j => xv_mB xt_M xt_J (190 + j)) = true := by decide +kernel
set_option maxRecDepth 100000 in
set_option maxHeartbeats 4000000 in
theorem xt_c9_3 : (List.range 5).all (fun j => xv_mB xt_M xt_J (195 + j)) = true := by decide +kernel
set_option maxRecDepth 100000 in
set_option maxHeartbeats 4000000 in
theorem xt_c10_0 : (List.range 5).all (fun j => xv_mB xt_M xt_J (200 + j)) = true := by decide +kernel
set_option maxRecDepth 100000 in
set_option maxHeartbeats 4000000 in
theorem xt_c10_1 : (List.range 5).all (fun j => xv_mB xt_M xt_J (205 + j)) = true := by decide +kernel
set_option maxRecDepth 100000 in
set_option maxHeartbeats 4000000 in
theorem xt_c10_2 : (List.range 5).all (fun j => xv_mB xt_M xt_J (210 + j)) = true := by decide +kernel
set_option maxRecDepth 100000 in
set_option maxHeartbeats 4000000 in
theorem xt_c10_3 : (List.range 5).all (fun j => xv_mB xt_M xt_J (215 + j)) = true := by decide +kernel
set_option maxRecDepth 100000 in
set_option maxHeartbeats 4000000 in
theorem xt_c11_0 : (List.range 5).all (fun j => xv_mB xt_M xt_J (220 + j)) = true := by decide +kernel
set_option maxRecDepth 100000 in
set_option maxHeartbeats 4000000 in
theorem xt_c11_1 : (List.range 5).all (fun j => xv_mB xt_M xt_J (225 + j)) = true := by decide +kernel
set_option maxRecDepth 100000 in
set_option maxHeartbeats 4000000 in
theorem xt_c11_2 : (List.range 5).all (fun j => xv_mB xt_M xt_J (230 + j)) = true := by decide +kernel
set_option maxRecDepth 100000 in
set_option maxHeartbeats 4000000 in
theorem xt_c11_3 : (List.range 5).all (fun j => xv_mB xt_M xt_J (235 + j)) = true := by decide +kernel
set_option maxRecDepth 100000 in
set_option maxHeartbeats 4000000 in
theorem xt_c12_0 : (List.range 5).all (fun j => xv_mB xt_M xt_J (240 + j)) = true := by decide +kernel
set_option maxRecDepth 100000 in
set_option maxHeartbeats 4000000 in
theorem xt_c12_1 : (List.range 5).all (fun j => xv_mB xt_M xt_J (245 + j)) = true := by decide +kernel
set_option maxRecDepth 100000 in
set_option maxHeartbeats 4000000 in
theorem xt_c12_2 : (List.range 5).all (fun j => xv_mB xt_M xt_J (250 + j)) = true := by decide +kernel
set_option maxRecDepth 100000 in
set_option maxHeartbeats 4000000 in
theorem xt_c12_3 : (List.range 5).all (fun j => xv_mB xt_M xt_J (255 + j)) = true := by decide +kernel
set_option maxRecDepth 100000 in
set_option maxHeartbeats 4000000 in
theorem xt_c13_0 : (List.range 5).all (fun j => xv_mB xt_M xt_J (260 + j)) = true := by decide +kernel
set_option maxRecDepth 100000 in
set_option maxHeartbeats 4000000 in
theorem xt_c13_1 : (List.range 5).all (fun j => xv_mB xt_M xt_J (265 + j)) = true := by decide +kernel
set_option maxRecDepth 100000 in
set_option maxHeartbeats 4000000 in
theorem xt_c13_2 : (List.range 5).all (fun j => xv_mB xt_M xt_J (270 + j)) = true := by decide +kernel
set_option maxRecDepth 100000 in
set_option maxHeartbeats 4000000 in
theorem xt_c13_3 : (List.range 5).all (fun j => xv_mB xt_M xt_J (275 + j)) = true := by decide +kernel
set_option maxRecDepth 100000 in
set_option maxHeartbeats 4000000 in
theorem xt_c14_0 : (List.range 5).all (fun j => xv_mB xt_M xt_J (280 + j)) = true := by decide +kernel
set_option maxRecDepth 100000 in
set_option maxHeartbeats 4000000 in
theorem xt_c14_1 : (List.range 5).all (fun j => xv_mB xt_M xt_J (285 + j)) = true := by decide +kernel
set_option maxRecDepth 100000 in
set_option maxHeartbeats 4000000 in
theorem xt_c14_2 : (List.range 5).all (fun j => xv_mB xt_M xt_J (290 + j)) = true := by decide +kernel
set_option maxRecDepth 100000 in
set_option maxHeartbeats 4000000 in
theorem xt_c14_3 : (List.range 5).all (fun j => xv_mB xt_M xt_J (295 + j)) = true := by decide +kernel
set_option maxRecDepth 100000 in
set_option maxHeartbeats 4000000 in
theorem xt_c15_0 : (List.range 5).all (fun j => xv_mB xt_M xt_J (300 + j)) = true := by decide +kernel
set_option maxRecDepth 100000 in
set_option maxHeartbeats 4000000 in
theorem xt_c15_1 : (List.range 5).all (fun j => xv_mB xt_M xt_J (305 + j)) = true := by decide +kernel
set_option maxRecDepth 100000 in
set_option maxHeartbeats 4000000 in
theorem xt_c15_2 : (List.range 5).all (fun j => xv_mB xt_M xt_J (310 + j)) = true := by decide +kernel
set_option maxRecDepth 100000 in
set_option maxHeartbeats 4000000 in
theorem xt_c15_3 : (List.range 5).all (fun j => xv_mB xt_M xt_J (315 + j)) = true := by decide +kernel
set_option maxRecDepth 100000 in
set_option maxHeartbeats 4000000 in
theorem xt_c16_0 : (List.range 5).all (fun j => xv_mB xt_M xt_J (320 + j)) = true := by decide +kernel
set_option maxRecDepth 100000 in
set_option maxHeartbeats 4000000 in
theorem xt_c16_1 : (List.range 5).all (fun j => xv_mB xt_M xt_J (325 + j)) = true := by decide +kernel
set_option maxRecDepth 100000 in
set_option maxHeartbeats 4000000 in
theorem xt_c16_2 : (List.range 5).all (fun j => xv_mB xt_M xt_J (330 + j)) = true := by decide +kernel
set_option maxRecDepth 100000 in
set_option maxHeartbeats 4000000 in
theorem xt_c16_3 : (List.range 5).all (fun j => xv_mB xt_M xt_J (335 + j)) = true := by decide +kernel
