set_option maxRecDepth 20000 in
theorem gL_law_X10_at : GoodIn wsL_law (wsV RL 51 RX10 yX10_at wsX10_at) := goodIn_app (goodIn_of _ (by decide +kernel)) ggL_law_X10_at
set_option maxRecDepth 20000 in
theorem ggL_law_X9_touch : GoodIn wsL_law wsX9_touch := goodIn_r _ [436, 379, 32, 437, 380, 381, 2, 382, 154, 155, 156, 386, 387, 388, 31, 389, 289, 390, 94, 95, 391, 310, 311, 19, 312, 66, 392, 365, 366, 23, 367, 82, 393, 394, 395, 396, 88, 89, 90, 91, 397, 398, 399, 400, 401, 402, 403, 404, 336, 337, 338, 76, 67, 68, 438, 439, 440, 441, 442, 443, 444, 445, 446, 447, 448, 449, 92, 413, 414, 415, 416, 409, 410, 411, 412, 450, 451, 452, 453, 454, 1064, 1065, 1066, 1067, 1068, 1069, 1070, 1071, 1072, 1073, 1074, 1075, 1121, 1122, 1123, 1124, 1125, 1126, 1127, 1128, 1129, 1130, 1131, 1132, 1133, 1134, 1135, 1107, 1108, 1109, 1110, 1111, 1112, 1113, 1114, 1115, 1116, 1117, 1118, 1119, 1120] (by decide +kernel) (by decide +kernel)
set_option maxRecDepth 20000 in
theorem gL_law_X9_touch : GoodIn wsL_law (wsV RL 52 RX9 yX9_touch wsX9_touch) := goodIn_app (goodIn_of _ (by decide +kernel)) ggL_law_X9_touch
set_option maxRecDepth 20000 in
theorem ggL_law_X10_touch : GoodIn wsL_law wsX10_touch := goodIn_r _ [458, 251, 422, 431, 459, 142, 143, 432, 423, 424, 5, 425, 426, 169, 170, 171, 427, 428, 429, 430, 132, 144, 145, 146, 147, 318, 319, 320, 321, 131, 322, 323, 324, 325, 130, 460, 461, 462, 463, 346, 347, 348, 349, 1076, 1077, 1078, 1079, 1080, 1081, 1082, 1083, 1084, 1085, 1086, 1087, 1088, 1089, 1090, 1091, 1092, 1093, 1094, 1095, 1096, 1097, 1098, 1099, 1100, 1101, 1102, 1103] (by decide +kernel) (by decide +kernel)
set_option maxRecDepth 20000 in
theorem gL_law_X10_touch : GoodIn wsL_law (wsV RL 55 RX10 yX10_touch wsX10_touch) := goodIn_app (goodIn_of _ (by decide +kernel)) ggL_law_X10_touch
set_option maxRecDepth 20000 in
theorem ggL_law_X9_camera : GoodIn wsL_law wsX9_camera := goodIn_r _ [467, 28, 36, 468, 469, 2, 470, 154, 155, 156, 291, 292, 293, 35, 294, 295, 296, 1064, 1065, 1066, 1067, 1068, 1069, 1070, 1071, 1072, 1073, 1074, 1075, 1136, 1137, 1138, 1139, 1140, 1141, 1142] (by decide +kernel) (by decide +kernel)
set_option maxRecDepth 20000 in
theorem gL_law_X9_camera : GoodIn wsL_law (wsV RL 56 RX9 yX9_camera wsX9_camera) := goodIn_app (goodIn_of _ (by decide +kernel)) ggL_law_X9_camera
set_option maxRecDepth 20000 in
theorem ggL_law_X10_camera : GoodIn wsL_law wsX10_camera := goodIn_r _ [474, 475, 476, 477, 478, 136, 169, 170, 5, 171, 1076, 1077, 1078, 1079, 1080, 1081, 1082, 1083, 1084, 1085, 1086, 1087, 1088, 1089, 1090, 1091, 1092, 1093, 1094, 1095, 1096, 1097, 1098, 1099, 1100, 1101, 1102, 1103] (by decide +kernel) (by decide +kernel)
set_option maxRecDepth 20000 in
theorem gL_law_X10_camera : GoodIn wsL_law (wsV RL 59 RX10 yX10_camera wsX10_camera) := goodIn_app (goodIn_of _ (by decide +kernel)) ggL_law_X10_camera
set_option maxRecDepth 20000 in
theorem ggL_law_X9_blur : GoodIn wsL_law wsX9_blur := goodIn_r _ [482, 354, 483, 24, 468, 469, 2, 470, 154, 155, 156, 383, 384, 385, 484, 485, 486, 487, 488, 489, 23, 490, 491, 83, 1064, 1065, 1066, 1067, 1068, 1069, 1070, 1071, 1072, 1073, 1074, 1075, 1117, 1118, 1119, 1120] (by decide +kernel) (by decide +kernel)
set_option maxRecDepth 20000 in
theorem gL_law_X9_blur : GoodIn wsL_law (wsV RL 60 RX9 yX9_blur wsX9_blur) := goodIn_app (goodIn_of _ (by decide +kernel)) ggL_law_X9_blur
set_option maxRecDepth 20000 in
theorem ggL_law_X10_blur : GoodIn wsL_law wsX10_blur := goodIn_r _ [495, 475, 421, 496, 497, 169, 170, 5, 171, 498, 499, 500, 239, 501, 502, 503, 504, 134, 135, 1076, 1077, 1078, 1079, 1080, 1081, 1082, 1083, 1084, 1085, 1086, 1087, 1088, 1089, 1090, 1091, 1092, 1093, 1094, 1095, 1096, 1097, 1098, 1099, 1100, 1101, 1102, 1103] (by decide +kernel) (by decide +kernel)
set_option maxRecDepth 20000 in
theorem gL_law_X10_blur : GoodIn wsL_law (wsV RL 64 RX10 yX10_blur wsX10_blur) := goodIn_app (goodIn_of _ (by decide +kernel)) ggL_law_X10_blur
set_option maxRecDepth 20000 in
theorem ggL_law_X9_mark : GoodIn wsL_law wsX9_mark := goodIn_r _ [508, 24, 331, 332, 2, 333, 330, 334, 154, 155, 156, 484, 485, 486, 487, 488, 489, 23, 490, 491, 83, 1064, 1065, 1066, 1067, 1068, 1069, 1070, 1071, 1072, 1073, 1074, 1075, 1117, 1118, 1119, 1120] (by decide +kernel) (by decide +kernel)
set_option maxRecDepth 20000 in
theorem gL_law_X9_mark : GoodIn wsL_law (wsV RL 65 RX9 yX9_mark wsX9_mark) := goodIn_app (goodIn_of _ (by decide +kernel)) ggL_law_X9_mark
set_option maxRecDepth 20000 in
theorem ggL_law_X10_mark : GoodIn wsL_law wsX10_mark := goodIn_r _ [512, 513, 514, 5, 515, 343, 344, 169, 170, 171, 498, 499, 500, 239, 501, 502, 503, 504, 134, 135, 1076, 1077, 1078, 1079, 1080, 1081, 1082, 1083, 1084, 1085, 1086, 1087, 1088, 1089, 1090, 1091, 1092, 1093, 1094, 1095, 1096, 1097, 1098, 1099, 1100, 1101, 1102, 1103] (by decide +kernel) (by decide +kernel)
set_option maxRecDepth 20000 in
theorem gL_law_X10_mark : GoodIn wsL_law (wsV RL 68 RX10 yX10_mark wsX10_mark) := goodIn_app (goodIn_of _ (by decide +kernel)) ggL_law_X10_mark
set_option maxRecDepth 20000 in
theorem ggL_law_X9_heard : GoodIn wsL_law wsX9_heard := goodIn_r _ [519, 24, 331, 332, 2, 333, 330, 334, 154, 155, 156, 383, 384, 385, 484, 485, 486, 487, 488, 489, 23, 490, 491, 83, 1064, 1065, 1066, 1067, 1068, 1069, 1070, 1071, 1072, 1073, 1074, 1075, 1117, 1118, 1119, 1120] (by decide +kernel) (by decide +kernel)
set_option maxRecDepth 20000 in
theorem gL_law_X9_heard : GoodIn wsL_law (wsV RL 69 RX9 yX9_heard wsX9_heard) := goodIn_app (goodIn_of _ (by decide +kernel)) ggL_law_X9_heard
set_option maxRecDepth 20000 in
theorem ggL_law_X10_heard : GoodIn wsL_law wsX10_heard := goodIn_r _ [523, 421, 237, 513, 514, 5, 515, 343, 344, 169, 170, 171, 498, 499, 500, 239, 501, 502, 503, 504, 134, 135, 1076, 1077, 1078, 1079, 1080, 1081, 1082, 1083, 1084, 1085, 1086, 1087, 1088, 1089, 1090, 1091, 1092, 1093, 1094, 1095, 1096, 1097, 1098, 1099, 1100, 1101, 1102, 1103] (by decide +kernel) (by decide +kernel)
set_option maxRecDepth 20000 in
theorem gL_law_X10_heard : GoodIn wsL_law (wsV RL 73 RX10 yX10_heard wsX10_heard) := goodIn_app (goodIn_of _ (by decide +kernel)) ggL_law_X10_heard
set_option maxRecDepth 20000 in
theorem ggL_law_X9_noSights : GoodIn wsL_law wsX9_noSights := goodIn_r _ [527, 24, 36, 528, 529, 530, 23, 531, 491, 291, 292, 293, 35, 294, 295, 296, 1064, 1065, 1066, 1067, 1068, 1069, 1070, 1071, 1072, 1073, 1074, 1075, 1117, 1118, 1119, 1120, 1136, 1137, 1138, 1139, 1140, 1141, 1142] (by decide +kernel) (by decide +kernel)
set_option maxRecDepth 20000 in
theorem gL_law_X9_noSights : GoodIn wsL_law (wsV RL 74 RX9 yX9_noSights wsX9_noSights) := goodIn_app (goodIn_of _ (by decide +kernel)) ggL_law_X9_noSights
set_option maxRecDepth 20000 in
theorem ggL_law_X10_noSights : GoodIn wsL_law wsX10_noSights := goodIn_r _ [535, 134, 1076, 1077, 1078, 1079, 1080, 1081, 1082, 1083, 1084, 1085, 1086, 1087, 1088, 1089, 1090, 1091, 1092, 1093, 1094, 1095, 1096, 1097, 1098, 1099, 1100, 1101, 1102, 1103] (by decide +kernel) (by decide +kernel)
set_option maxRecDepth 20000 in
theorem gL_law_X10_noSights : GoodIn wsL_law (wsV RL 77 RX10 yX10_noSights wsX10_noSights) := goodIn_app (goodIn_of _ (by decide +kernel)) ggL_law_X10_noSights
set_option maxRecDepth 20000 in
theorem ggL_law_X9_leave : GoodIn wsL_law wsX9_leave := goodIn_r _ [539, 24, 154, 155, 2, 156, 540, 541, 542, 23, 543, 544, 1064, 1065, 1066, 1067, 1068, 1069, 1070, 1071, 1072, 1073, 1074, 1075, 1117, 1118, 1119, 1120] (by decide +kernel) (by decide +kernel)
set_option maxRecDepth 20000 in
theorem gL_law_X9_leave : GoodIn wsL_law (wsV RL 78 RX9 yX9_leave wsX9_leave) := goodIn_app (goodIn_of _ (by decide +kernel)) ggL_law_X9_leave
set_option maxRecDepth 20000 in
theorem ggL_law_X10_leave : GoodIn wsL_law wsX10_leave := goodIn_r _ [548, 549, 133, 169, 170, 5, 171, 1076, 1077, 1078, 1079, 1080, 1081, 1082, 1083, 1084, 1085, 1086, 1087, 1088, 1089, 1090, 1091, 1092, 1093, 1094, 1095, 1096, 1097, 1098, 1099, 1100, 1101, 1102, 1103] (by decide +kernel) (by decide +kernel)
set_option maxRecDepth 20000 in
theorem gL_law_X10_leave : GoodIn wsL_law (wsV RL 81 RX10 yX10_leave wsX10_leave) := goodIn_app (goodIn_of _ (by decide +kernel)) ggL_law_X10_leave
set_option maxRecDepth 20000 in
theorem ggL_law_X9_fits : GoodIn wsL_law wsX9_fits := goodIn_r _ [553, 24, 36, 380, 381, 2, 382, 154, 155, 156, 554, 555, 556, 23, 557, 491, 558, 559, 560, 35, 561, 103, 296, 100, 101, 295, 102, 562, 387, 388, 31, 389, 289, 390, 94, 95, 391, 310, 311, 19, 312, 66, 392, 365, 366, 367, 82, 393, 394, 395, 396, 88, 89, 90, 91, 397, 398, 399, 400, 401, 402, 403, 404, 336, 337, 338, 76, 67, 68, 563, 564, 565, 566, 567, 568, 569, 570, 571, 572, 573, 574, 575, 576, 577, 578, 579, 580, 581, 582, 583, 83, 584, 585, 586, 587, 588, 589, 590, 591, 592, 439, 440, 441, 593, 594, 595, 596, 290, 93, 446, 447, 448, 449, 92, 413, 414, 415, 416, 409, 410, 411, 412, 597, 598, 599, 600, 601, 602, 603, 604, 605, 606, 607, 608, 609, 610, 611, 612, 613, 104, 614, 615, 616, 617, 618, 619, 620, 621, 622, 623, 624, 625, 626, 627, 628, 629, 630, 631, 632, 633, 634, 635, 636, 637, 638, 639, 640, 641, 642, 643, 644, 645, 646, 647, 648, 649, 650, 651, 652, 653, 654, 655, 656, 657, 658, 659, 660, 661, 662, 663, 664, 665, 666, 667, 668, 669, 544, 670, 671, 672, 673, 674, 675, 676, 677, 678, 679, 680, 681, 682, 683, 1064, 1065, 1066, 1067, 1068, 1069, 1070, 1071, 1072, 1073, 1074, 1075, 1117, 1118, 1119, 1120, 1136, 1137, 1138, 1139, 1140, 1141, 1142, 1121, 1122, 1123, 1124, 1125, 1126, 1127, 1128, 1129, 1130, 1131, 1132, 1133, 1134, 1135, 1107, 1108, 1109, 1110, 1111, 1112, 1113, 1114, 1115, 1116] (by decide +kernel) (by decide +kernel)
set_option maxRecDepth 20000 in
theorem gL_law_X9_fits : GoodIn wsL_law (wsV RL 82 RX9 yX9_fits wsX9_fits) := goodIn_app (goodIn_of _ (by decide +kernel)) ggL_law_X9_fits
set_option maxRecDepth 20000 in
theorem ggL_law_X10_fits : GoodIn wsL_law wsX10_fits := goodIn_r _ [687, 688, 134, 133, 423, 424, 5, 425, 426, 169, 170, 171, 427, 428, 429, 430, 142, 132, 143, 144, 145, 146, 147, 431, 432, 318, 319, 320, 321, 131, 322, 323, 324, 325, 130, 689, 690, 691, 692, 135, 693, 694, 695, 696, 697, 698, 699, 700, 701, 702, 703, 704, 136, 705, 706, 707, 1076, 1077, 1078, 1079, 1080, 1081, 1082, 1083, 1084, 1085, 1086, 1087, 1088, 1089, 1090, 1091, 1092, 1093, 1094, 1095, 1096, 1097, 1098, 1099, 1100, 1101, 1102, 1103] (by decide +kernel) (by decide +kernel)
set_option maxRecDepth 20000 in
theorem gL_law_X10_fits : GoodIn wsL_law (wsV RL 85 RX10 yX10_fits wsX10_fits) := goodIn_app (goodIn_of _ (by decide +kernel)) ggL_law_X10_fits
set_option maxRecDepth 20000 in
theorem ggL_law_X9_fitting : GoodIn wsL_law wsX9_fitting := goodIn_r _ [711, 36, 24, 558, 559, 560, 35, 561, 103, 296, 100, 101, 295, 102, 562, 387, 388, 31, 389, 289, 390, 94, 95, 391, 310, 311, 19, 312, 66, 392, 365, 366, 23, 367, 82, 393, 394, 395, 396, 88, 89, 90, 91, 397, 398, 399, 400, 401, 402, 403, 404, 336, 337, 338, 76, 67, 68, 563, 564, 565, 566, 567, 555, 556, 557, 491, 568, 569, 570, 571, 572, 573, 574, 575, 576, 577, 578, 579, 580, 581, 582, 583, 83, 584, 585, 586, 587, 588, 589, 590, 591, 592, 439, 440, 441, 593, 594, 595, 596, 290, 93, 446, 447, 448, 449, 92, 413, 414, 415, 416, 409, 410, 411, 412, 597, 598, 599, 600, 601, 602, 603, 604, 605, 606, 607, 608, 609, 610, 611, 612, 613, 104, 614, 615, 616, 617, 618, 619, 620, 621, 622, 623, 624, 625, 626, 627, 628, 629, 630, 631, 632, 633, 634, 635, 636, 637, 638, 639, 640, 641, 642, 643, 644, 645, 646, 647, 648, 649, 650, 651, 652, 653, 654, 655, 656, 657, 658, 659, 660, 661, 662, 663, 664, 665, 666, 667, 668, 669, 544, 670, 671, 672, 673, 674, 675, 676, 677, 678, 679, 712, 713, 714, 715, 716, 681, 682, 683, 717, 718, 719, 720, 1064, 1065, 1066, 1067, 1068, 1069, 1070, 1071, 1072, 1073, 1074, 1075, 1136, 1137, 1138, 1139, 1140, 1141, 1142, 1121, 1122, 1123, 1124, 1125, 1126, 1127, 1128, 1129, 1130, 1131, 1132, 1133, 1134, 1135, 1107, 1108, 1109, 1110, 1111, 1112, 1113, 1114, 1115, 1116, 1117, 1118, 1119, 1120] (by decide +kernel) (by decide +kernel)
set_option maxRecDepth 20000 in
theorem gL_law_X9_fitting : GoodIn wsL_law (wsV RL 86 RX9 yX9_fitting wsX9_fitting) := goodIn_app (goodIn_of _ (by decide +kernel)) ggL_law_X9_fitting
