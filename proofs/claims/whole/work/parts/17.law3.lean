set_option maxRecDepth 20000 in
theorem gL_law_X9_sort : GoodIn wsL_law (wsV RL 123 RX9 yX9_sort wsX9_sort) := goodIn_app (goodIn_of _ (by decide +kernel)) ggL_law_X9_sort
set_option maxRecDepth 20000 in
theorem ggL_law_X10_sort : GoodIn wsL_law wsX10_sort := goodIn_r _ [902, 475, 478, 138, 139, 169, 170, 5, 171, 1076, 1077, 1078, 1079, 1080, 1081, 1082, 1083, 1084, 1085, 1086, 1087, 1088, 1089, 1090, 1091, 1092, 1093, 1094, 1095, 1096, 1097, 1098, 1099, 1100, 1101, 1102, 1103] (by decide +kernel) (by decide +kernel)
set_option maxRecDepth 20000 in
theorem gL_law_X10_sort : GoodIn wsL_law (wsV RL 126 RX10 yX10_sort wsX10_sort) := goodIn_app (goodIn_of _ (by decide +kernel)) ggL_law_X10_sort
set_option maxRecDepth 20000 in
theorem ggL_law_X9_worth : GoodIn wsL_law wsX9_worth := goodIn_r _ [906, 907, 44, 908, 154, 155, 2, 156, 909, 910, 911, 43, 912, 115, 913, 914, 915, 916, 917, 918, 919, 920, 895, 119, 921, 118, 922, 923, 924, 925, 926, 927, 928, 574, 929, 930, 931, 932, 933, 934, 935, 936, 937, 116, 896, 897, 898, 938, 939, 940, 941, 942, 943, 944, 1064, 1065, 1066, 1067, 1068, 1069, 1070, 1071, 1072, 1073, 1074, 1075, 1147, 1148, 1149, 1150, 1151] (by decide +kernel) (by decide +kernel)
set_option maxRecDepth 20000 in
theorem gL_law_X9_worth : GoodIn wsL_law (wsV RL 127 RX9 yX9_worth wsX9_worth) := goodIn_app (goodIn_of _ (by decide +kernel)) ggL_law_X9_worth
set_option maxRecDepth 20000 in
theorem ggL_law_X10_worth : GoodIn wsL_law wsX10_worth := goodIn_r _ [948, 166, 688, 949, 148, 149, 169, 170, 5, 171, 950, 951, 952, 953, 138, 954, 955, 956, 957, 238, 478, 958, 959, 960, 961, 139, 962, 963, 964, 1076, 1077, 1078, 1079, 1080, 1081, 1082, 1083, 1084, 1085, 1086, 1087, 1088, 1089, 1090, 1091, 1092, 1093, 1094, 1095, 1096, 1097, 1098, 1099, 1100, 1101, 1102, 1103] (by decide +kernel) (by decide +kernel)
set_option maxRecDepth 20000 in
theorem gL_law_X10_worth : GoodIn wsL_law (wsV RL 131 RX10 yX10_worth wsX10_worth) := goodIn_app (goodIn_of _ (by decide +kernel)) ggL_law_X10_worth
set_option maxRecDepth 20000 in
theorem ggL_law_X9_when : GoodIn wsL_law wsX9_when := goodIn_r _ [968, 44, 154, 155, 2, 156, 909, 910, 911, 43, 912, 115, 969, 970, 971, 972, 926, 917, 918, 919, 920, 895, 119, 921, 118, 922, 923, 924, 925, 927, 928, 574, 929, 930, 931, 932, 933, 934, 935, 936, 937, 116, 896, 897, 898, 938, 939, 940, 941, 1064, 1065, 1066, 1067, 1068, 1069, 1070, 1071, 1072, 1073, 1074, 1075, 1147, 1148, 1149, 1150, 1151] (by decide +kernel) (by decide +kernel)
set_option maxRecDepth 20000 in
theorem gL_law_X9_when : GoodIn wsL_law (wsV RL 132 RX9 yX9_when wsX9_when) := goodIn_app (goodIn_of _ (by decide +kernel)) ggL_law_X9_when
set_option maxRecDepth 20000 in
theorem ggL_law_X10_when : GoodIn wsL_law wsX10_when := goodIn_r _ [976, 977, 166, 475, 478, 149, 169, 170, 5, 171, 950, 951, 952, 953, 138, 954, 955, 956, 957, 148, 238, 958, 959, 960, 961, 139, 1076, 1077, 1078, 1079, 1080, 1081, 1082, 1083, 1084, 1085, 1086, 1087, 1088, 1089, 1090, 1091, 1092, 1093, 1094, 1095, 1096, 1097, 1098, 1099, 1100, 1101, 1102, 1103] (by decide +kernel) (by decide +kernel)
set_option maxRecDepth 20000 in
theorem gL_law_X10_when : GoodIn wsL_law (wsV RL 135 RX10 yX10_when wsX10_when) := goodIn_app (goodIn_of _ (by decide +kernel)) ggL_law_X10_when
set_option maxRecDepth 20000 in
theorem ggL_law_X9_truly : GoodIn wsL_law wsX9_truly := goodIn_r _ [981, 48, 154, 155, 2, 156, 982, 983, 984, 47, 985, 986, 123, 124, 1064, 1065, 1066, 1067, 1068, 1069, 1070, 1071, 1072, 1073, 1074, 1075, 1152, 1153, 1154] (by decide +kernel) (by decide +kernel)
set_option maxRecDepth 20000 in
theorem gL_law_X9_truly : GoodIn wsL_law (wsV RL 136 RX9 yX9_truly wsX9_truly) := goodIn_app (goodIn_of _ (by decide +kernel)) ggL_law_X9_truly
set_option maxRecDepth 20000 in
theorem ggL_law_X10_truly : GoodIn wsL_law wsX10_truly := goodIn_r _ [990, 238, 991, 140, 169, 170, 5, 171, 1076, 1077, 1078, 1079, 1080, 1081, 1082, 1083, 1084, 1085, 1086, 1087, 1088, 1089, 1090, 1091, 1092, 1093, 1094, 1095, 1096, 1097, 1098, 1099, 1100, 1101, 1102, 1103] (by decide +kernel) (by decide +kernel)
set_option maxRecDepth 20000 in
theorem gL_law_X10_truly : GoodIn wsL_law (wsV RL 140 RX10 yX10_truly wsX10_truly) := goodIn_app (goodIn_of _ (by decide +kernel)) ggL_law_X10_truly
set_option maxRecDepth 20000 in
theorem ggL_law_X9_bestSure : GoodIn wsL_law wsX9_bestSure := goodIn_r _ [995, 48, 154, 155, 2, 156, 996, 997, 998, 47, 999, 1000, 1001, 1002, 1003, 986, 124, 123, 1004, 1005, 1006, 1007, 1008, 1009, 1064, 1065, 1066, 1067, 1068, 1069, 1070, 1071, 1072, 1073, 1074, 1075, 1152, 1153, 1154] (by decide +kernel) (by decide +kernel)
set_option maxRecDepth 20000 in
theorem gL_law_X9_bestSure : GoodIn wsL_law (wsV RL 141 RX9 yX9_bestSure wsX9_bestSure) := goodIn_app (goodIn_of _ (by decide +kernel)) ggL_law_X9_bestSure
set_option maxRecDepth 20000 in
theorem ggL_law_X10_bestSure : GoodIn wsL_law wsX10_bestSure := goodIn_r _ [1013, 476, 169, 170, 5, 171, 1014, 1015, 1016, 1017, 991, 140, 1076, 1077, 1078, 1079, 1080, 1081, 1082, 1083, 1084, 1085, 1086, 1087, 1088, 1089, 1090, 1091, 1092, 1093, 1094, 1095, 1096, 1097, 1098, 1099, 1100, 1101, 1102, 1103] (by decide +kernel) (by decide +kernel)
set_option maxRecDepth 20000 in
theorem gL_law_X10_bestSure : GoodIn wsL_law (wsV RL 144 RX10 yX10_bestSure wsX10_bestSure) := goodIn_app (goodIn_of _ (by decide +kernel)) ggL_law_X10_bestSure
set_option maxRecDepth 20000 in
theorem ggL_law_X9_keep : GoodIn wsL_law wsX9_keep := goodIn_r _ [1021, 49, 25, 26, 24, 1022, 1023, 1024, 23, 1025, 82, 1026, 1027, 1028, 1029, 83, 491, 544, 1064, 1065, 1066, 1067, 1068, 1069, 1070, 1071, 1072, 1073, 1074, 1075, 1117, 1118, 1119, 1120] (by decide +kernel) (by decide +kernel)
set_option maxRecDepth 20000 in
theorem gL_law_X9_keep : GoodIn wsL_law (wsV RL 145 RX9 yX9_keep wsX9_keep) := goodIn_app (goodIn_of _ (by decide +kernel)) ggL_law_X9_keep
set_option maxRecDepth 20000 in
theorem ggL_law_X10_keep : GoodIn wsL_law wsX10_keep := goodIn_r _ [1033, 1034, 1035, 1036, 1037, 5, 1038, 132, 133, 134, 135, 1076, 1077, 1078, 1079, 1080, 1081, 1082, 1083, 1084, 1085, 1086, 1087, 1088, 1089, 1090, 1091, 1092, 1093, 1094, 1095, 1096, 1097, 1098, 1099, 1100, 1101, 1102, 1103] (by decide +kernel) (by decide +kernel)
set_option maxRecDepth 20000 in
theorem gL_law_X10_keep : GoodIn wsL_law (wsV RL 148 RX10 yX10_keep wsX10_keep) := goodIn_app (goodIn_of _ (by decide +kernel)) ggL_law_X10_keep
set_option maxRecDepth 20000 in
theorem ggL_law_X9_back : GoodIn wsL_law wsX9_back := goodIn_r _ [1042, 49, 24, 25, 26, 1022, 1023, 1024, 23, 1025, 82, 1026, 1027, 1028, 1029, 83, 491, 544, 281, 282, 283, 2, 284, 32, 36, 285, 286, 287, 31, 288, 289, 290, 291, 292, 293, 35, 294, 295, 296, 1064, 1065, 1066, 1067, 1068, 1069, 1070, 1071, 1072, 1073, 1074, 1075, 1117, 1118, 1119, 1120, 1121, 1122, 1123, 1124, 1125, 1126, 1127, 1128, 1129, 1130, 1131, 1132, 1133, 1134, 1135, 1136, 1137, 1138, 1139, 1140, 1141, 1142] (by decide +kernel) (by decide +kernel)
set_option maxRecDepth 20000 in
theorem gL_law_X9_back : GoodIn wsL_law (wsV RL 149 RX9 yX9_back wsX9_back) := goodIn_app (goodIn_of _ (by decide +kernel)) ggL_law_X9_back
set_option maxRecDepth 20000 in
theorem ggL_law_X10_back : GoodIn wsL_law wsX10_back := goodIn_r _ [1046, 1034, 1035, 1036, 1037, 5, 1038, 132, 133, 134, 135, 1076, 1077, 1078, 1079, 1080, 1081, 1082, 1083, 1084, 1085, 1086, 1087, 1088, 1089, 1090, 1091, 1092, 1093, 1094, 1095, 1096, 1097, 1098, 1099, 1100, 1101, 1102, 1103] (by decide +kernel) (by decide +kernel)
set_option maxRecDepth 20000 in
theorem gL_law_X10_back : GoodIn wsL_law (wsV RL 152 RX10 yX10_back wsX10_back) := goodIn_app (goodIn_of _ (by decide +kernel)) ggL_law_X10_back
set_option maxRecDepth 20000 in
theorem ggL_law_X9_count : GoodIn wsL_law wsX9_count := goodIn_r _ [1050, 16, 20, 24, 40, 48, 49, 1051, 261, 262, 15, 263, 161, 297, 298, 299, 19, 300, 78, 554, 555, 556, 23, 557, 491, 1052, 1053, 1054, 39, 1055, 858, 1056, 1057, 1058, 47, 1059, 986, 1064, 1065, 1066, 1067, 1068, 1069, 1070, 1071, 1072, 1073, 1074, 1075, 1104, 1105, 1106, 1107, 1108, 1109, 1110, 1111, 1112, 1113, 1114, 1115, 1116, 1117, 1118, 1119, 1120, 1143, 1144, 1145, 1146, 1152, 1153, 1154] (by decide +kernel) (by decide +kernel)
set_option maxRecDepth 20000 in
theorem gL_law_X9_count : GoodIn wsL_law (wsV RL 153 RX9 yX9_count wsX9_count) := goodIn_app (goodIn_of _ (by decide +kernel)) ggL_law_X9_count
set_option maxRecDepth 20000 in
theorem ggL_law_X10_count : GoodIn wsL_law wsX10_count := goodIn_r _ [1063, 167, 130, 134, 865, 991, 1034, 1076, 1077, 1078, 1079, 1080, 1081, 1082, 1083, 1084, 1085, 1086, 1087, 1088, 1089, 1090, 1091, 1092, 1093, 1094, 1095, 1096, 1097, 1098, 1099, 1100, 1101, 1102, 1103] (by decide +kernel) (by decide +kernel)
set_option maxRecDepth 20000 in
theorem gL_law_X10_count : GoodIn wsL_law (wsV RL 156 RX10 yX10_count wsX10_count) := goodIn_app (goodIn_of _ (by decide +kernel)) ggL_law_X10_count
theorem dL_law_0 : decode cL_law 0 = .ok (.new 7, 3) := by decide +kernel
theorem dL_law_3 : decode cL_law 3 = .ok (.dup, 1) := by decide +kernel
theorem dL_law_4 : decode cL_law 4 = .ok (.invokespecial 9, 3) := by decide +kernel
theorem dL_law_7 : decode cL_law 7 = .ok (.astore_n 1, 1) := by decide +kernel
theorem dL_law_8 : decode cL_law 8 = .ok (.new 10, 3) := by decide +kernel
theorem dL_law_11 : decode cL_law 11 = .ok (.dup, 1) := by decide +kernel
theorem dL_law_12 : decode cL_law 12 = .ok (.invokespecial 12, 3) := by decide +kernel
theorem dL_law_15 : decode cL_law 15 = .ok (.astore_n 2, 1) := by decide +kernel
