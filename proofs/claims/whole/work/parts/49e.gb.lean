set_option maxRecDepth 20000 in
theorem ggL_law_X9_learn : GoodIn wsL_law wsX9_learn := goodIn_r _ [766, 102, 161, 165, 166, 167, 5, 168, 169, 619, 620, 621, 622, 99, 230, 231, 232, 233, 98, 234, 235, 236, 237, 238, 239, 240, 241, 242, 12, 13, 243, 244, 180, 245, 246, 247, 248, 249, 250, 251, 252, 253, 254, 255, 256, 257, 258, 259, 612, 613, 614, 615, 515, 745, 746, 747, 748, 100, 749, 304, 278, 305, 664, 277, 279, 608, 609, 610, 611, 616, 617, 618, 598, 599, 600, 601, 602, 603, 604, 605, 514, 516, 101, 606, 607, 479, 480, 481, 482, 174, 483, 484, 485, 486, 487, 488, 403, 489, 490, 491, 492, 493, 115, 1415, 1416, 1417, 1418, 1419, 1420, 1421, 1422, 1423, 1424, 1425, 1426, 1427, 1428, 1429, 1430, 1431, 1469, 1470, 1471, 1472, 1466, 1467, 1468] (by decide +kernel) (by decide +kernel)
set_option maxRecDepth 20000 in
theorem gL_law_X9_learn : GoodIn wsL_law (wsV RL 201 RX9 yX9_learn wsX9_learn) := goodIn_app (goodIn_of _ (by decide +kernel)) ggL_law_X9_learn
set_option maxRecDepth 20000 in
theorem ggL_law_L_found : GoodIn wsL_law wsL_found := goodIn_ca (goodIn_r _ [769, 729, 770, 771, 772, 2, 773, 734, 735, 17, 705, 550, 551, 16, 552, 49, 553, 554, 555, 556, 153, 557, 558, 559, 560, 51, 210, 211, 706, 328, 329, 330, 331, 332, 333, 774, 643, 644, 645, 216, 217, 1407, 1408, 1409, 1410, 1411, 1412, 1413, 1414, 1432, 1433, 1434, 1435, 1436, 1437, 1438, 1439, 1462, 1463, 1464, 1465] (by decide +kernel) (by decide +kernel)) (goodIn_sub (fun _ h => List.mem_append_right _ h) (by decide +kernel))
set_option maxRecDepth 20000 in
theorem gL_law_L_found : GoodIn wsL_law (va_wsS RL 202 yL_found wsL_found) := goodIn_app (goodIn_of _ (by decide +kernel)) ggL_law_L_found
set_option maxRecDepth 20000 in
theorem ggL_law_X9_found : GoodIn wsL_law wsX9_found := goodIn_r _ [778, 99, 230, 619, 620, 621, 5, 622, 231, 232, 233, 98, 234, 235, 236, 237, 238, 239, 240, 241, 242, 12, 13, 243, 244, 180, 245, 246, 247, 248, 249, 250, 251, 252, 253, 254, 255, 256, 257, 258, 259, 612, 613, 614, 615, 515, 165, 166, 167, 168, 169, 170, 171, 172, 173, 174, 479, 480, 481, 482, 483, 484, 485, 486, 487, 488, 403, 489, 490, 491, 492, 493, 115, 1415, 1416, 1417, 1418, 1419, 1420, 1421, 1422, 1423, 1424, 1425, 1426, 1427, 1428, 1429, 1430, 1431, 1469, 1470, 1471, 1472, 1466, 1467, 1468] (by decide +kernel) (by decide +kernel)
set_option maxRecDepth 20000 in
theorem gL_law_X9_found : GoodIn wsL_law (wsV RL 204 RX9 yX9_found wsX9_found) := goodIn_app (goodIn_of _ (by decide +kernel)) ggL_law_X9_found
set_option maxRecDepth 20000 in
theorem ggL_law_L_isShattered : GoodIn wsL_law wsL_isShattered := goodIn_ca (goodIn_r _ [781, 130, 782, 783, 784, 2, 785, 135, 136, 18, 198, 199, 200, 48, 201, 59, 786, 787, 788, 789, 141, 206, 207, 208, 209, 57, 210, 211, 790, 791, 792, 793, 794, 795, 796, 327, 328, 329, 330, 331, 332, 333, 1407, 1408, 1409, 1410, 1411, 1412, 1413, 1414, 1462, 1463, 1464, 1465] (by decide +kernel) (by decide +kernel)) (goodIn_sub (fun _ h => List.mem_append_left _ (List.mem_append_left _ (List.mem_append_left _ (List.mem_append_left _ (List.mem_append_right _ h))))) (by decide +kernel))
set_option maxRecDepth 20000 in
theorem gL_law_L_isShattered : GoodIn wsL_law (va_wsS RL 205 yL_isShattered wsL_isShattered) := goodIn_app (goodIn_of _ (by decide +kernel)) ggL_law_L_isShattered
set_option maxRecDepth 20000 in
theorem ggL_law_X9_isShattered : GoodIn wsL_law wsX9_isShattered := goodIn_r _ [800, 222, 223, 224, 5, 225, 100, 162, 163, 164, 165, 166, 167, 168, 169, 801, 802, 803, 804, 109, 99, 230, 231, 232, 233, 98, 234, 235, 236, 237, 238, 239, 240, 241, 242, 12, 13, 243, 244, 180, 245, 246, 247, 248, 249, 250, 251, 252, 253, 254, 255, 256, 257, 258, 259, 432, 328, 329, 330, 331, 332, 333, 1415, 1416, 1417, 1418, 1419, 1420, 1421, 1422, 1423, 1424, 1425, 1426, 1427, 1428, 1429, 1430, 1431, 1469, 1470, 1471, 1472, 1466, 1467, 1468] (by decide +kernel) (by decide +kernel)
set_option maxRecDepth 20000 in
theorem gL_law_X9_isShattered : GoodIn wsL_law (wsV RL 207 RX9 yX9_isShattered wsX9_isShattered) := goodIn_app (goodIn_of _ (by decide +kernel)) ggL_law_X9_isShattered
set_option maxRecDepth 20000 in
theorem ggL_law_X8_dimension : GoodIn wsL_law wsX8_dimension := goodIn_r _ [808, 18, 809, 810, 811, 48, 812, 59, 327, 328, 329, 330, 331, 332, 333, 813, 787, 788, 789, 141, 206, 207, 208, 209, 57, 210, 2, 211, 790, 791, 792, 793, 794, 795, 796, 1407, 1408, 1409, 1410, 1411, 1412, 1413, 1414, 1462, 1463, 1464, 1465] (by decide +kernel) (by decide +kernel)
set_option maxRecDepth 20000 in
theorem gL_law_X8_dimension : GoodIn wsL_law (wsV RL 208 RX8 yX8_dimension wsX8_dimension) := goodIn_app (goodIn_of _ (by decide +kernel)) ggL_law_X8_dimension
set_option maxRecDepth 20000 in
theorem ggL_law_X9_dimension : GoodIn wsL_law wsX9_dimension := goodIn_r _ [817, 169, 818, 819, 820, 5, 821, 100, 664, 277, 278, 279, 801, 802, 803, 804, 109, 99, 230, 231, 232, 233, 98, 234, 235, 236, 237, 238, 239, 240, 241, 242, 12, 13, 243, 244, 180, 245, 246, 247, 248, 249, 250, 251, 252, 253, 254, 255, 256, 257, 258, 259, 432, 328, 329, 330, 331, 332, 333, 1415, 1416, 1417, 1418, 1419, 1420, 1421, 1422, 1423, 1424, 1425, 1426, 1427, 1428, 1429, 1430, 1431, 1469, 1470, 1471, 1472, 1466, 1467, 1468] (by decide +kernel) (by decide +kernel)
set_option maxRecDepth 20000 in
theorem gL_law_X9_dimension : GoodIn wsL_law (wsV RL 211 RX9 yX9_dimension wsX9_dimension) := goodIn_app (goodIn_of _ (by decide +kernel)) ggL_law_X9_dimension
set_option maxRecDepth 20000 in
theorem ggL_law_L_lesson : GoodIn wsL_law wsL_lesson := goodIn_ca (goodIn_r _ [824, 456, 825, 826, 827, 2, 828, 461, 462, 18, 463, 464, 465, 48, 466, 141, 829, 830, 831, 832, 59, 327, 328, 329, 330, 331, 332, 333, 833, 834, 835, 836, 206, 207, 208, 209, 57, 210, 211, 1407, 1408, 1409, 1410, 1411, 1412, 1413, 1414, 1462, 1463, 1464, 1465] (by decide +kernel) (by decide +kernel)) (goodIn_sub (fun _ h => List.mem_append_left _ (List.mem_append_right _ h)) (by decide +kernel))
set_option maxRecDepth 20000 in
theorem gL_law_L_lesson : GoodIn wsL_law (va_wsS RL 212 yL_lesson wsL_lesson) := goodIn_app (goodIn_of _ (by decide +kernel)) ggL_law_L_lesson
set_option maxRecDepth 20000 in
theorem ggL_law_X9_lesson : GoodIn wsL_law wsX9_lesson := goodIn_r _ [840, 472, 473, 474, 5, 475, 99, 476, 477, 478, 170, 171, 172, 98, 173, 174, 165, 166, 167, 168, 169, 841, 842, 843, 844, 100, 230, 749, 304, 278, 305, 479, 480, 481, 482, 483, 484, 485, 486, 487, 488, 403, 489, 490, 491, 492, 493, 115, 432, 328, 329, 330, 331, 332, 333, 1415, 1416, 1417, 1418, 1419, 1420, 1421, 1422, 1423, 1424, 1425, 1426, 1427, 1428, 1429, 1430, 1431, 1466, 1467, 1468] (by decide +kernel) (by decide +kernel)
set_option maxRecDepth 20000 in
theorem gL_law_X9_lesson : GoodIn wsL_law (wsV RL 214 RX9 yX9_lesson wsX9_lesson) := goodIn_app (goodIn_of _ (by decide +kernel)) ggL_law_X9_lesson
set_option maxRecDepth 20000 in
theorem ggL_law_X8_depth : GoodIn wsL_law wsX8_depth := goodIn_r _ [848, 22, 18, 849, 850, 851, 21, 852, 853, 854, 855, 856, 64, 857, 858, 859, 860, 861, 63, 862, 574, 575, 48, 576, 141, 142, 2, 143, 210, 211, 863, 566, 567, 568, 58, 864, 570, 571, 572, 573, 865, 866, 867, 868, 869, 328, 329, 330, 331, 332, 333, 870, 871, 872, 873, 874, 304, 278, 305, 875, 277, 279, 876, 877, 878, 879, 1407, 1408, 1409, 1410, 1411, 1412, 1413, 1414, 1440, 1441, 1442, 1462, 1463, 1464, 1465] (by decide +kernel) (by decide +kernel)
set_option maxRecDepth 20000 in
theorem gL_law_X8_depth : GoodIn wsL_law (wsV RL 215 RX8 yX8_depth wsX8_depth) := goodIn_app (goodIn_of _ (by decide +kernel)) ggL_law_X8_depth
set_option maxRecDepth 20000 in
theorem ggL_law_X9_depth : GoodIn wsL_law wsX9_depth := goodIn_r _ [883, 169, 99, 170, 171, 172, 98, 173, 174, 884, 885, 886, 5, 887, 100, 664, 277, 278, 279, 749, 304, 305, 432, 328, 329, 330, 331, 332, 333, 888, 889, 890, 891, 230, 479, 480, 481, 482, 483, 484, 485, 486, 487, 488, 403, 489, 490, 491, 492, 493, 115, 616, 617, 618, 1415, 1416, 1417, 1418, 1419, 1420, 1421, 1422, 1423, 1424, 1425, 1426, 1427, 1428, 1429, 1430, 1431, 1466, 1467, 1468] (by decide +kernel) (by decide +kernel)
set_option maxRecDepth 20000 in
theorem gL_law_X9_depth : GoodIn wsL_law (wsV RL 218 RX9 yX9_depth wsX9_depth) := goodIn_app (goodIn_of _ (by decide +kernel)) ggL_law_X9_depth
set_option maxRecDepth 20000 in
theorem ggL_law_X8_mistakes : GoodIn wsL_law wsX8_mistakes := goodIn_r _ [895, 22, 18, 896, 897, 898, 21, 899, 853, 854, 855, 856, 64, 857, 858, 859, 860, 861, 63, 862, 574, 575, 48, 576, 141, 142, 2, 143, 210, 211, 863, 566, 567, 568, 58, 864, 570, 571, 572, 573, 865, 866, 867, 868, 869, 328, 329, 330, 331, 332, 333, 870, 871, 872, 873, 874, 304, 278, 305, 875, 277, 279, 876, 877, 878, 879, 1407, 1408, 1409, 1410, 1411, 1412, 1413, 1414, 1440, 1441, 1442, 1462, 1463, 1464, 1465] (by decide +kernel) (by decide +kernel)
set_option maxRecDepth 20000 in
theorem gL_law_X8_mistakes : GoodIn wsL_law (wsV RL 219 RX8 yX8_mistakes wsX8_mistakes) := goodIn_app (goodIn_of _ (by decide +kernel)) ggL_law_X8_mistakes
set_option maxRecDepth 20000 in
theorem ggL_law_X9_mistakes : GoodIn wsL_law wsX9_mistakes := goodIn_r _ [903, 169, 99, 170, 171, 172, 98, 173, 174, 904, 905, 906, 5, 907, 100, 749, 304, 278, 305, 664, 277, 279, 432, 328, 329, 330, 331, 332, 333, 888, 889, 890, 891, 230, 479, 480, 481, 482, 483, 484, 485, 486, 487, 488, 403, 489, 490, 491, 492, 493, 115, 616, 617, 618, 1415, 1416, 1417, 1418, 1419, 1420, 1421, 1422, 1423, 1424, 1425, 1426, 1427, 1428, 1429, 1430, 1431, 1466, 1467, 1468] (by decide +kernel) (by decide +kernel)
set_option maxRecDepth 20000 in
theorem gL_law_X9_mistakes : GoodIn wsL_law (wsV RL 222 RX9 yX9_mistakes wsX9_mistakes) := goodIn_app (goodIn_of _ (by decide +kernel)) ggL_law_X9_mistakes
set_option maxRecDepth 20000 in
theorem ggL_law_L_halver : GoodIn wsL_law wsL_halver := goodIn_ca (goodIn_r _ [910, 456, 911, 912, 913, 2, 914, 461, 462, 18, 463, 464, 465, 48, 466, 141, 915, 916, 917, 918, 59, 206, 207, 208, 209, 57, 210, 211, 573, 574, 575, 576, 919, 562, 563, 564, 565, 566, 567, 568, 58, 327, 328, 329, 330, 331, 332, 333, 569, 570, 571, 572, 216, 217, 920, 639, 640, 641, 1407, 1408, 1409, 1410, 1411, 1412, 1413, 1414, 1462, 1463, 1464, 1465] (by decide +kernel) (by decide +kernel)) (goodIn_sub (fun _ h => List.mem_append_left _ (List.mem_append_right _ h)) (by decide +kernel))
set_option maxRecDepth 20000 in
theorem gL_law_L_halver : GoodIn wsL_law (va_wsS RL 223 yL_halver wsL_halver) := goodIn_app (goodIn_of _ (by decide +kernel)) ggL_law_L_halver
set_option maxRecDepth 20000 in
theorem ggL_law_X9_halver : GoodIn wsL_law wsX9_halver := goodIn_r _ [924, 99, 100, 230, 472, 473, 474, 5, 475, 476, 477, 478, 170, 171, 172, 98, 173, 174, 165, 166, 167, 168, 169, 888, 889, 890, 891, 479, 480, 481, 482, 483, 484, 485, 486, 487, 488, 403, 489, 490, 491, 492, 493, 115, 616, 617, 618, 432, 328, 329, 330, 331, 332, 333, 1415, 1416, 1417, 1418, 1419, 1420, 1421, 1422, 1423, 1424, 1425, 1426, 1427, 1428, 1429, 1430, 1431, 1466, 1467, 1468] (by decide +kernel) (by decide +kernel)
set_option maxRecDepth 20000 in
theorem gL_law_X9_halver : GoodIn wsL_law (wsV RL 225 RX9 yX9_halver wsX9_halver) := goodIn_app (goodIn_of _ (by decide +kernel)) ggL_law_X9_halver
set_option maxRecDepth 20000 in
theorem ggL_law_L_experts : GoodIn wsL_law wsL_experts := goodIn_ca (goodIn_r _ [927, 130, 928, 929, 930, 2, 931, 135, 136, 26, 932, 933, 934, 25, 935, 936, 937, 68, 69, 142, 143, 1407, 1408, 1409, 1410, 1411, 1412, 1413, 1414, 1443, 1444, 1445, 1446] (by decide +kernel) (by decide +kernel)) (goodIn_sub (fun _ h => List.mem_append_left _ (List.mem_append_left _ (List.mem_append_left _ (List.mem_append_left _ (List.mem_append_right _ h))))) (by decide +kernel))
set_option maxRecDepth 20000 in
theorem gL_law_L_experts : GoodIn wsL_law (va_wsS RL 226 yL_experts wsL_experts) := goodIn_app (goodIn_of _ (by decide +kernel)) ggL_law_L_experts
set_option maxRecDepth 20000 in
theorem ggL_law_X9_experts : GoodIn wsL_law wsX9_experts := goodIn_r _ [941, 160, 103, 942, 50, 162, 163, 5, 164, 165, 166, 167, 168, 169, 170, 171, 172, 98, 173, 174, 175, 176, 177, 178, 179, 180, 115, 260, 261, 262, 263, 264, 265, 266, 267, 268, 269, 270, 271, 272, 273, 274, 275, 114, 276, 277, 278, 279, 280, 281, 282, 283, 284, 285, 286, 287, 288, 289, 290, 291, 292, 293, 294, 295, 296, 297, 298, 299, 300, 301, 302, 303, 304, 305, 306, 307, 308, 309, 1415, 1416, 1417, 1418, 1419, 1420, 1421, 1422, 1423, 1424, 1425, 1426, 1427, 1428, 1429, 1430, 1431, 1466, 1467, 1468] (by decide +kernel) (by decide +kernel)
set_option maxRecDepth 20000 in
theorem gL_law_X9_experts : GoodIn wsL_law (wsV RL 228 RX9 yX9_experts wsX9_experts) := goodIn_app (goodIn_of _ (by decide +kernel)) ggL_law_X9_experts
set_option maxRecDepth 20000 in
theorem ggL_law_L_round : GoodIn wsL_law wsL_round := goodIn_ca (goodIn_ca (goodIn_r _ [945, 130, 188, 946, 947, 948, 2, 949, 135, 136, 194, 195, 26, 950, 951, 952, 25, 953, 937, 936, 68, 954, 277, 278, 279, 69, 955, 956, 957, 958, 216, 217, 959, 960, 961, 962, 210, 211, 142, 143, 1407, 1408, 1409, 1410, 1411, 1412, 1413, 1414, 1443, 1444, 1445, 1446] (by decide +kernel) (by decide +kernel)) (goodIn_sub (fun _ h => List.mem_append_left _ (List.mem_append_left _ (List.mem_append_left _ (List.mem_append_left _ (List.mem_append_right _ h))))) (by decide +kernel))) (goodIn_sub (fun _ h => List.mem_append_left _ (List.mem_append_left _ (List.mem_append_left _ (List.mem_append_right _ h)))) (by decide +kernel))
set_option maxRecDepth 20000 in
theorem gL_law_L_round : GoodIn wsL_law (va_wsS RL 229 yL_round wsL_round) := goodIn_app (goodIn_of _ (by decide +kernel)) ggL_law_L_round
set_option maxRecDepth 20000 in
theorem ggL_law_X9_round : GoodIn wsL_law wsX9_round := goodIn_r _ [966, 103, 230, 664, 277, 278, 279, 942, 170, 171, 172, 98, 173, 174, 517, 518, 519, 520, 165, 166, 167, 5, 168, 169, 616, 617, 618, 479, 480, 481, 482, 483, 484, 485, 486, 487, 488, 403, 489, 490, 491, 492, 493, 115, 1415, 1416, 1417, 1418, 1419, 1420, 1421, 1422, 1423, 1424, 1425, 1426, 1427, 1428, 1429, 1430, 1431, 1466, 1467, 1468] (by decide +kernel) (by decide +kernel)
set_option maxRecDepth 20000 in
theorem gL_law_X9_round : GoodIn wsL_law (wsV RL 232 RX9 yX9_round wsX9_round) := goodIn_app (goodIn_of _ (by decide +kernel)) ggL_law_X9_round
set_option maxRecDepth 20000 in
theorem ggL_law_L_weight : GoodIn wsL_law wsL_weight := goodIn_ca (goodIn_r _ [969, 456, 970, 971, 972, 2, 973, 461, 462, 26, 974, 960, 961, 25, 962, 68, 210, 211, 1407, 1408, 1409, 1410, 1411, 1412, 1413, 1414, 1443, 1444, 1445, 1446] (by decide +kernel) (by decide +kernel)) (goodIn_sub (fun _ h => List.mem_append_left _ (List.mem_append_right _ h)) (by decide +kernel))
set_option maxRecDepth 20000 in
theorem gL_law_L_weight : GoodIn wsL_law (va_wsS RL 233 yL_weight wsL_weight) := goodIn_app (goodIn_of _ (by decide +kernel)) ggL_law_L_weight
set_option maxRecDepth 20000 in
theorem ggL_law_X9_weight : GoodIn wsL_law wsX9_weight := goodIn_r _ [978, 103, 230, 476, 477, 5, 478, 170, 171, 172, 98, 173, 174, 165, 166, 167, 168, 169, 479, 480, 481, 482, 483, 484, 485, 486, 487, 488, 403, 489, 490, 491, 492, 493, 115, 1415, 1416, 1417, 1418, 1419, 1420, 1421, 1422, 1423, 1424, 1425, 1426, 1427, 1428, 1429, 1430, 1431, 1466, 1467, 1468] (by decide +kernel) (by decide +kernel)
set_option maxRecDepth 20000 in
theorem gL_law_X9_weight : GoodIn wsL_law (wsV RL 235 RX9 yX9_weight wsX9_weight) := goodIn_app (goodIn_of _ (by decide +kernel)) ggL_law_X9_weight
set_option maxRecDepth 20000 in
theorem ggL_law_L_regret : GoodIn wsL_law wsL_regret := goodIn_ca (goodIn_r _ [981, 188, 982, 983, 984, 2, 985, 194, 195, 26, 986, 987, 988, 25, 989, 69, 936, 990, 304, 278, 305, 210, 211, 1407, 1408, 1409, 1410, 1411, 1412, 1413, 1414, 1443, 1444, 1445, 1446] (by decide +kernel) (by decide +kernel)) (goodIn_sub (fun _ h => List.mem_append_left _ (List.mem_append_left _ (List.mem_append_left _ (List.mem_append_right _ h)))) (by decide +kernel))
set_option maxRecDepth 20000 in
theorem gL_law_L_regret : GoodIn wsL_law (va_wsS RL 236 yL_regret wsL_regret) := goodIn_app (goodIn_of _ (by decide +kernel)) ggL_law_L_regret
set_option maxRecDepth 20000 in
theorem ggL_law_X9_regret : GoodIn wsL_law wsX9_regret := goodIn_r _ [994, 995, 103, 230, 749, 304, 278, 305, 942, 231, 232, 233, 98, 234, 235, 236, 237, 238, 239, 240, 241, 242, 12, 13, 243, 244, 180, 245, 246, 247, 248, 249, 250, 251, 252, 253, 254, 255, 256, 257, 258, 259, 517, 518, 519, 520, 174, 165, 166, 167, 5, 168, 169, 1415, 1416, 1417, 1418, 1419, 1420, 1421, 1422, 1423, 1424, 1425, 1426, 1427, 1428, 1429, 1430, 1431, 1469, 1470, 1471, 1472, 1466, 1467, 1468] (by decide +kernel) (by decide +kernel)
set_option maxRecDepth 20000 in
theorem gL_law_X9_regret : GoodIn wsL_law (wsV RL 238 RX9 yX9_regret wsX9_regret) := goodIn_app (goodIn_of _ (by decide +kernel)) ggL_law_X9_regret
set_option maxRecDepth 20000 in
theorem ggL_law_L_state : GoodIn wsL_law wsL_state := goodIn_ca (goodIn_r _ [998, 189, 999, 1000, 1001, 2, 1002, 196, 197, 30, 1003, 1004, 1005, 29, 1006, 1007, 73, 1008, 142, 143, 1407, 1408, 1409, 1410, 1411, 1412, 1413, 1414, 1447, 1448, 1449] (by decide +kernel) (by decide +kernel)) (goodIn_sub (fun _ h => List.mem_append_left _ (List.mem_append_left _ (List.mem_append_right _ h))) (by decide +kernel))
set_option maxRecDepth 20000 in
theorem gL_law_L_state : GoodIn wsL_law (va_wsS RL 239 yL_state wsL_state) := goodIn_app (goodIn_of _ (by decide +kernel)) ggL_law_L_state
set_option maxRecDepth 20000 in
theorem ggL_law_X9_state : GoodIn wsL_law wsX9_state := goodIn_r _ [1012, 104, 50, 170, 171, 172, 98, 173, 174, 165, 166, 167, 5, 168, 169, 260, 261, 262, 263, 179, 180, 115, 264, 265, 266, 267, 268, 269, 270, 271, 272, 273, 274, 275, 114, 276, 277, 278, 279, 280, 281, 282, 283, 284, 285, 286, 287, 288, 289, 290, 291, 292, 293, 294, 295, 296, 297, 298, 299, 300, 301, 302, 303, 304, 305, 306, 307, 308, 309, 1415, 1416, 1417, 1418, 1419, 1420, 1421, 1422, 1423, 1424, 1425, 1426, 1427, 1428, 1429, 1430, 1431, 1466, 1467, 1468] (by decide +kernel) (by decide +kernel)
set_option maxRecDepth 20000 in
theorem gL_law_X9_state : GoodIn wsL_law (wsV RL 242 RX9 yX9_state wsX9_state) := goodIn_app (goodIn_of _ (by decide +kernel)) ggL_law_X9_state
set_option maxRecDepth 20000 in
theorem ggL_law_L_go : GoodIn wsL_law wsL_go := goodIn_ca (goodIn_ca (goodIn_r _ [1015, 456, 130, 1016, 1017, 1018, 2, 1019, 461, 462, 135, 136, 30, 1020, 1021, 1022, 29, 1023, 1007, 1024, 1025, 1026, 1027, 73, 210, 211, 142, 143, 1407, 1408, 1409, 1410, 1411, 1412, 1413, 1414, 1447, 1448, 1449] (by decide +kernel) (by decide +kernel)) (goodIn_sub (fun _ h => List.mem_append_left _ (List.mem_append_right _ h)) (by decide +kernel))) (goodIn_sub (fun _ h => List.mem_append_left _ (List.mem_append_left _ (List.mem_append_left _ (List.mem_append_left _ (List.mem_append_right _ h))))) (by decide +kernel))
set_option maxRecDepth 20000 in
theorem gL_law_L_go : GoodIn wsL_law (va_wsS RL 243 yL_go wsL_go) := goodIn_app (goodIn_of _ (by decide +kernel)) ggL_law_L_go
set_option maxRecDepth 20000 in
theorem ggL_law_X9_go : GoodIn wsL_law wsX9_go := goodIn_r _ [1031, 104, 230, 476, 477, 5, 478, 170, 171, 172, 98, 173, 174, 165, 166, 167, 168, 169, 479, 480, 481, 482, 483, 484, 485, 486, 487, 488, 403, 489, 490, 491, 492, 493, 115, 1415, 1416, 1417, 1418, 1419, 1420, 1421, 1422, 1423, 1424, 1425, 1426, 1427, 1428, 1429, 1430, 1431, 1466, 1467, 1468] (by decide +kernel) (by decide +kernel)
set_option maxRecDepth 20000 in
theorem gL_law_X9_go : GoodIn wsL_law (wsV RL 246 RX9 yX9_go wsX9_go) := goodIn_app (goodIn_of _ (by decide +kernel)) ggL_law_X9_go
set_option maxRecDepth 20000 in
theorem ggL_law_L_accepts : GoodIn wsL_law wsL_accepts := goodIn_ca (goodIn_ca (goodIn_r _ [1034, 130, 188, 1035, 1036, 1037, 2, 1038, 135, 136, 194, 195, 30, 1039, 1040, 1041, 1042, 1043, 1044, 29, 1045, 1008, 73, 1046, 1047, 1048, 210, 211, 216, 217, 1407, 1408, 1409, 1410, 1411, 1412, 1413, 1414, 1447, 1448, 1449] (by decide +kernel) (by decide +kernel)) (goodIn_sub (fun _ h => List.mem_append_left _ (List.mem_append_left _ (List.mem_append_left _ (List.mem_append_left _ (List.mem_append_right _ h))))) (by decide +kernel))) (goodIn_sub (fun _ h => List.mem_append_left _ (List.mem_append_left _ (List.mem_append_left _ (List.mem_append_right _ h)))) (by decide +kernel))
set_option maxRecDepth 20000 in
theorem gL_law_L_accepts : GoodIn wsL_law (va_wsS RL 247 yL_accepts wsL_accepts) := goodIn_app (goodIn_of _ (by decide +kernel)) ggL_law_L_accepts
set_option maxRecDepth 20000 in
theorem ggL_law_X9_accepts : GoodIn wsL_law wsX9_accepts := goodIn_r _ [1052, 104, 1053, 1054, 5, 1055, 1056, 162, 163, 164, 517, 518, 519, 98, 520, 174, 165, 166, 167, 168, 169, 1057, 1058, 1059, 1060, 230, 479, 480, 481, 482, 483, 484, 485, 486, 487, 488, 403, 489, 490, 491, 492, 493, 115, 1415, 1416, 1417, 1418, 1419, 1420, 1421, 1422, 1423, 1424, 1425, 1426, 1427, 1428, 1429, 1430, 1431, 1466, 1467, 1468] (by decide +kernel) (by decide +kernel)
set_option maxRecDepth 20000 in
theorem gL_law_X9_accepts : GoodIn wsL_law (wsV RL 250 RX9 yX9_accepts wsX9_accepts) := goodIn_app (goodIn_of _ (by decide +kernel)) ggL_law_X9_accepts
set_option maxRecDepth 20000 in
theorem ggL_law_L_apart : GoodIn wsL_law wsL_apart := goodIn_ca (goodIn_ca (goodIn_r _ [1063, 456, 729, 1064, 1065, 1066, 2, 1067, 461, 462, 734, 735, 30, 1020, 1021, 1022, 29, 1023, 1007, 1068, 1069, 1070, 1071, 1072, 1043, 1044, 1045, 1008, 73, 1046, 1047, 1048, 210, 211, 216, 217, 1407, 1408, 1409, 1410, 1411, 1412, 1413, 1414, 1447, 1448, 1449] (by decide +kernel) (by decide +kernel)) (goodIn_sub (fun _ h => List.mem_append_left _ (List.mem_append_right _ h)) (by decide +kernel))) (goodIn_sub (fun _ h => List.mem_append_right _ h) (by decide +kernel))
set_option maxRecDepth 20000 in
theorem gL_law_L_apart : GoodIn wsL_law (va_wsS RL 251 yL_apart wsL_apart) := goodIn_app (goodIn_of _ (by decide +kernel)) ggL_law_L_apart
set_option maxRecDepth 20000 in
theorem ggL_law_X9_apart : GoodIn wsL_law wsX9_apart := goodIn_r _ [1076, 104, 476, 477, 5, 478, 170, 171, 172, 98, 173, 174, 1077, 1078, 1079, 1080, 108, 109, 230, 479, 480, 481, 482, 483, 484, 485, 486, 487, 488, 403, 489, 490, 491, 492, 493, 115, 165, 166, 167, 168, 169, 1415, 1416, 1417, 1418, 1419, 1420, 1421, 1422, 1423, 1424, 1425, 1426, 1427, 1428, 1429, 1430, 1431, 1466, 1467, 1468] (by decide +kernel) (by decide +kernel)
set_option maxRecDepth 20000 in
theorem gL_law_X9_apart : GoodIn wsL_law (wsV RL 253 RX9 yX9_apart wsX9_apart) := goodIn_app (goodIn_of _ (by decide +kernel)) ggL_law_X9_apart
set_option maxRecDepth 20000 in
theorem ggL_law_L_leastStates : GoodIn wsL_law wsL_leastStates := goodIn_ca (goodIn_r _ [1083, 188, 1084, 1085, 1086, 2, 1087, 194, 195, 30, 1088, 1089, 1090, 29, 1091, 1007, 1092, 1093, 1094, 1095, 73, 216, 217, 210, 211, 1096, 1097, 1098, 1099, 1100, 1069, 1070, 1071, 1072, 1043, 1044, 1045, 1008, 1046, 1047, 1048, 1407, 1408, 1409, 1410, 1411, 1412, 1413, 1414, 1447, 1448, 1449] (by decide +kernel) (by decide +kernel)) (goodIn_sub (fun _ h => List.mem_append_left _ (List.mem_append_left _ (List.mem_append_left _ (List.mem_append_right _ h)))) (by decide +kernel))
set_option maxRecDepth 20000 in
theorem gL_law_L_leastStates : GoodIn wsL_law (va_wsS RL 254 yL_leastStates wsL_leastStates) := goodIn_app (goodIn_of _ (by decide +kernel)) ggL_law_L_leastStates
