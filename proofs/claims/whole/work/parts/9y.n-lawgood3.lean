/-! the law: its callees' words among its own, 3 -/
set_option maxRecDepth 20000 in
theorem ggL_law_X11_bestTax : GoodIn wsL_law wsX11_bestTax := goodIn_r _ [872, 99, 16, 25, 873, 874, 270, 181, 182, 15, 183, 130, 287, 288, 2, 289, 701, 702, 703, 704, 475, 476, 477, 478, 129, 479, 480, 481, 482, 328, 329, 330, 331, 332, 333, 334, 24, 335, 63, 336, 59, 337, 60, 338, 339, 340, 341, 342, 343, 58, 344, 345, 346, 347, 348, 349, 350, 351, 352, 353, 354, 355, 356, 357, 358, 359, 360, 185, 186, 187, 361, 362, 363, 364, 40, 365, 366, 367, 368, 483, 484, 485, 486, 462, 487, 455, 456, 457, 458, 459, 460, 461, 420, 421, 422, 423, 62, 424, 425, 426, 427, 61, 428, 433, 434, 435, 436, 605, 606, 607, 608, 1204, 1205, 1206, 1207, 1208, 1209, 1210, 1211, 1254, 1255, 1256, 1257, 1258, 1259, 1260, 1261, 1262, 1263, 1264, 1265, 1266, 1267, 1236, 1237, 1238, 1239, 1240, 1241, 1242, 1243, 1244] (by decide +kernel) (by decide +kernel)
set_option maxRecDepth 20000 in
theorem gL_law_X11_bestTax : GoodIn wsL_law (wsV RL 144 RX11 yX11_bestTax wsX11_bestTax) := goodIn_app (goodIn_of _ (by decide +kernel)) ggL_law_X11_bestTax
set_option maxRecDepth 20000 in
theorem ggL_law_X12_bestTax : GoodIn wsL_law wsX12_bestTax := goodIn_r _ [878, 82, 93, 256, 257, 258, 5, 259, 279, 280, 281, 282, 215, 216, 217, 390, 391, 392, 393, 492, 493, 494, 495, 385, 386, 387, 388, 389, 394, 395, 396, 467, 468, 469, 470, 383, 384, 441, 442, 443, 444, 92, 445, 242, 397, 398, 399, 400, 401, 402, 403, 404, 405, 617, 618, 619, 620, 1212, 1213, 1214, 1215, 1216, 1217, 1218, 1219, 1220, 1221, 1222, 1223, 1224, 1225, 1226, 1227, 1228, 1229, 1230, 1231, 1232, 1233, 1234, 1235] (by decide +kernel) (by decide +kernel)
set_option maxRecDepth 20000 in
theorem gL_law_X12_bestTax : GoodIn wsL_law (wsV RL 147 RX12 yX12_bestTax wsX12_bestTax) := goodIn_app (goodIn_of _ (by decide +kernel)) ggL_law_X12_bestTax
set_option maxRecDepth 20000 in
theorem ggL_law_X11_moved : GoodIn wsL_law wsX11_moved := goodIn_r _ [882, 99, 16, 247, 328, 329, 330, 15, 331, 129, 130, 250, 185, 186, 187, 479, 480, 481, 2, 482, 25, 332, 333, 334, 24, 335, 63, 336, 59, 337, 60, 338, 339, 340, 341, 342, 343, 58, 344, 345, 346, 347, 348, 349, 350, 351, 352, 353, 354, 355, 356, 357, 358, 359, 360, 361, 362, 363, 364, 40, 365, 366, 367, 368, 483, 484, 485, 486, 462, 487, 455, 456, 457, 458, 459, 460, 461, 420, 421, 422, 423, 62, 424, 425, 426, 427, 61, 428, 433, 434, 435, 436, 883, 884, 885, 886, 39, 1204, 1205, 1206, 1207, 1208, 1209, 1210, 1211, 1236, 1237, 1238, 1239, 1240, 1241, 1242, 1243, 1244, 1254, 1255, 1256, 1257, 1258, 1259, 1260, 1261, 1262, 1263, 1264, 1265, 1266, 1267] (by decide +kernel) (by decide +kernel)
set_option maxRecDepth 20000 in
theorem gL_law_X11_moved : GoodIn wsL_law (wsV RL 148 RX11 yX11_moved wsX11_moved) := goodIn_app (goodIn_of _ (by decide +kernel)) ggL_law_X11_moved
set_option maxRecDepth 20000 in
theorem ggL_law_X12_moved : GoodIn wsL_law wsX12_moved := goodIn_r _ [890, 82, 256, 257, 258, 5, 259, 385, 386, 387, 388, 389, 390, 391, 392, 393, 215, 216, 217, 394, 395, 396, 260, 261, 262, 263, 492, 493, 494, 495, 467, 468, 469, 470, 383, 384, 441, 442, 443, 444, 92, 445, 242, 397, 398, 399, 400, 401, 402, 403, 404, 405, 279, 280, 281, 282, 1212, 1213, 1214, 1215, 1216, 1217, 1218, 1219, 1220, 1221, 1222, 1223, 1224, 1225, 1226, 1227, 1228, 1229, 1230, 1231, 1232, 1233, 1234, 1235] (by decide +kernel) (by decide +kernel)
set_option maxRecDepth 20000 in
theorem gL_law_X12_moved : GoodIn wsL_law (wsV RL 151 RX12 yX12_moved wsX12_moved) := goodIn_app (goodIn_of _ (by decide +kernel)) ggL_law_X12_moved
set_option maxRecDepth 20000 in
theorem ggL_law_X11_losers : GoodIn wsL_law wsX11_losers := goodIn_r _ [894, 25, 16, 895, 450, 451, 452, 2, 453, 99, 328, 329, 330, 15, 331, 129, 130, 287, 288, 289, 332, 333, 334, 24, 335, 63, 336, 59, 337, 60, 338, 339, 340, 341, 342, 343, 58, 344, 345, 346, 347, 348, 349, 350, 351, 352, 353, 354, 355, 356, 357, 358, 359, 360, 185, 186, 187, 361, 362, 363, 364, 40, 365, 366, 367, 368, 645, 646, 647, 648, 424, 649, 650, 651, 652, 653, 654, 655, 656, 39, 525, 417, 418, 419, 420, 421, 422, 423, 62, 425, 426, 427, 61, 428, 524, 430, 431, 432, 433, 434, 435, 436, 1204, 1205, 1206, 1207, 1208, 1209, 1210, 1211, 1236, 1237, 1238, 1239, 1240, 1241, 1242, 1243, 1244, 1254, 1255, 1256, 1257, 1258, 1259, 1260, 1261, 1262, 1263, 1264, 1265, 1266, 1267] (by decide +kernel) (by decide +kernel)
set_option maxRecDepth 20000 in
theorem gL_law_X11_losers : GoodIn wsL_law (wsV RL 152 RX11 yX11_losers wsX11_losers) := goodIn_app (goodIn_of _ (by decide +kernel)) ggL_law_X11_losers
set_option maxRecDepth 20000 in
theorem ggL_law_X12_losers : GoodIn wsL_law wsX12_losers := goodIn_r _ [899, 82, 383, 256, 257, 258, 5, 259, 385, 386, 387, 388, 389, 390, 391, 392, 393, 215, 216, 217, 394, 395, 396, 665, 666, 667, 668, 242, 384, 441, 442, 443, 444, 92, 445, 397, 398, 399, 400, 401, 402, 403, 404, 405, 1212, 1213, 1214, 1215, 1216, 1217, 1218, 1219, 1220, 1221, 1222, 1223, 1224, 1225, 1226, 1227, 1228, 1229, 1230, 1231, 1232, 1233, 1234, 1235] (by decide +kernel) (by decide +kernel)
set_option maxRecDepth 20000 in
theorem gL_law_X12_losers : GoodIn wsL_law (wsV RL 155 RX12 yX12_losers wsX12_losers) := goodIn_app (goodIn_of _ (by decide +kernel)) ggL_law_X12_losers
set_option maxRecDepth 20000 in
theorem ggL_law_X11_standing : GoodIn wsL_law wsX11_standing := goodIn_r _ [903, 99, 16, 25, 475, 476, 477, 15, 478, 129, 328, 329, 330, 331, 130, 574, 339, 340, 24, 341, 342, 63, 343, 58, 904, 905, 906, 907, 336, 908, 576, 577, 578, 353, 337, 425, 352, 579, 580, 373, 367, 374, 581, 344, 345, 346, 347, 1204, 1205, 1206, 1207, 1208, 1209, 1210, 1211, 1236, 1237, 1238, 1239, 1240, 1241, 1242, 1243, 1244, 1254, 1255, 1256, 1257, 1258, 1259, 1260, 1261, 1262, 1263, 1264, 1265, 1266, 1267] (by decide +kernel) (by decide +kernel)
set_option maxRecDepth 20000 in
theorem gL_law_X11_standing : GoodIn wsL_law (wsV RL 156 RX11 yX11_standing wsX11_standing) := goodIn_app (goodIn_of _ (by decide +kernel)) ggL_law_X11_standing
set_option maxRecDepth 20000 in
theorem ggL_law_X12_standing : GoodIn wsL_law wsX12_standing := goodIn_r _ [912, 82, 256, 257, 258, 5, 259, 390, 391, 392, 393, 385, 386, 387, 388, 389, 215, 216, 217, 394, 395, 396, 586, 587, 588, 589, 383, 384, 538, 539, 540, 541, 1212, 1213, 1214, 1215, 1216, 1217, 1218, 1219, 1220, 1221, 1222, 1223, 1224, 1225, 1226, 1227, 1228, 1229, 1230, 1231, 1232, 1233, 1234, 1235] (by decide +kernel) (by decide +kernel)
set_option maxRecDepth 20000 in
theorem gL_law_X12_standing : GoodIn wsL_law (wsV RL 159 RX12 yX12_standing wsX12_standing) := goodIn_app (goodIn_of _ (by decide +kernel)) ggL_law_X12_standing
set_option maxRecDepth 20000 in
theorem ggL_law_X11_image : GoodIn wsL_law wsX11_image := goodIn_r _ [916, 99, 17, 16, 917, 895, 192, 193, 194, 15, 195, 129, 130, 131, 39, 196, 197, 198, 199, 40, 41, 42, 43, 45, 1204, 1205, 1206, 1207, 1208, 1209, 1210, 1211, 1236, 1237, 1238, 1239, 1240, 1241, 1242, 1243, 1244] (by decide +kernel) (by decide +kernel)
set_option maxRecDepth 20000 in
theorem gL_law_X11_image : GoodIn wsL_law (wsV RL 160 RX11 yX11_image wsX11_image) := goodIn_app (goodIn_of _ (by decide +kernel)) ggL_law_X11_image
set_option maxRecDepth 20000 in
theorem ggL_law_X12_image : GoodIn wsL_law wsX12_image := goodIn_r _ [921, 83, 82, 922, 256, 257, 258, 5, 259, 1212, 1213, 1214, 1215, 1216, 1217, 1218, 1219, 1220, 1221, 1222, 1223, 1224, 1225, 1226, 1227, 1228, 1229, 1230, 1231, 1232, 1233, 1234, 1235] (by decide +kernel) (by decide +kernel)
set_option maxRecDepth 20000 in
theorem gL_law_X12_image : GoodIn wsL_law (wsV RL 163 RX12 yX12_image wsX12_image) := goodIn_app (goodIn_of _ (by decide +kernel)) ggL_law_X12_image
set_option maxRecDepth 20000 in
theorem ggL_law_X11_restore : GoodIn wsL_law wsX11_restore := goodIn_r _ [926, 917, 16, 17, 895, 192, 193, 194, 15, 195, 129, 130, 131, 39, 196, 197, 198, 199, 40, 41, 42, 43, 45, 1204, 1205, 1206, 1207, 1208, 1209, 1210, 1211, 1236, 1237, 1238, 1239, 1240, 1241, 1242, 1243, 1244] (by decide +kernel) (by decide +kernel)
set_option maxRecDepth 20000 in
theorem gL_law_X11_restore : GoodIn wsL_law (wsV RL 164 RX11 yX11_restore wsX11_restore) := goodIn_app (goodIn_of _ (by decide +kernel)) ggL_law_X11_restore
set_option maxRecDepth 20000 in
theorem ggL_law_X12_restore : GoodIn wsL_law wsX12_restore := goodIn_r _ [930, 922, 82, 83, 1212, 1213, 1214, 1215, 1216, 1217, 1218, 1219, 1220, 1221, 1222, 1223, 1224, 1225, 1226, 1227, 1228, 1229, 1230, 1231, 1232, 1233, 1234, 1235] (by decide +kernel) (by decide +kernel)
set_option maxRecDepth 20000 in
theorem gL_law_X12_restore : GoodIn wsL_law (wsV RL 167 RX12 yX12_restore wsX12_restore) := goodIn_app (goodIn_of _ (by decide +kernel)) ggL_law_X12_restore
set_option maxRecDepth 20000 in
theorem ggL_law_X11_count : GoodIn wsL_law wsX11_count := goodIn_r _ [934, 16, 895, 935, 936, 937, 938, 15, 939, 130, 43, 940, 941, 942, 943, 129, 40, 944, 945, 946, 947, 45, 1204, 1205, 1206, 1207, 1208, 1209, 1210, 1211, 1236, 1237, 1238, 1239, 1240, 1241, 1242, 1243, 1244] (by decide +kernel) (by decide +kernel)
set_option maxRecDepth 20000 in
theorem gL_law_X11_count : GoodIn wsL_law (wsV RL 168 RX11 yX11_count wsX11_count) := goodIn_app (goodIn_of _ (by decide +kernel)) ggL_law_X11_count
set_option maxRecDepth 20000 in
theorem ggL_law_X12_count : GoodIn wsL_law wsX12_count := goodIn_r _ [951, 82, 1212, 1213, 1214, 1215, 1216, 1217, 1218, 1219, 1220, 1221, 1222, 1223, 1224, 1225, 1226, 1227, 1228, 1229, 1230, 1231, 1232, 1233, 1234, 1235] (by decide +kernel) (by decide +kernel)
set_option maxRecDepth 20000 in
theorem gL_law_X12_count : GoodIn wsL_law (wsV RL 171 RX12 yX12_count wsX12_count) := goodIn_app (goodIn_of _ (by decide +kernel)) ggL_law_X12_count
set_option maxRecDepth 20000 in
theorem ggL_law_X11_keep : GoodIn wsL_law wsX11_keep := goodIn_r _ [955, 31, 99, 16, 895, 100, 101, 2, 102, 287, 288, 289, 956, 957, 958, 33, 959, 77, 960, 107, 328, 329, 330, 15, 331, 129, 130, 961, 962, 963, 964, 965, 966, 967, 968, 969, 970, 971, 972, 973, 974, 975, 976, 977, 978, 979, 980, 981, 982, 983, 984, 985, 986, 987, 988, 11, 12, 989, 990, 991, 992, 993, 599, 600, 601, 602, 603, 604, 994, 995, 996, 997, 998, 999, 1000, 1001, 1002, 1003, 1004, 1005, 1006, 1007, 1008, 1009, 1010, 1011, 1012, 1013, 1014, 1015, 1204, 1205, 1206, 1207, 1208, 1209, 1210, 1211, 1236, 1237, 1238, 1239, 1240, 1241, 1242, 1243, 1244, 1272, 1273, 1274, 1275, 1276, 1277, 1278, 1279, 1280, 1281, 1282, 1283, 1284, 1285, 1286, 1287, 1288, 1289, 1290, 1291, 1292, 1293, 1294, 1295, 1296, 1297, 1298, 1299] (by decide +kernel) (by decide +kernel)
set_option maxRecDepth 20000 in
theorem gL_law_X11_keep : GoodIn wsL_law (wsV RL 172 RX11 yX11_keep wsX11_keep) := goodIn_app (goodIn_of _ (by decide +kernel)) ggL_law_X11_keep
set_option maxRecDepth 20000 in
theorem ggL_law_X12_keep : GoodIn wsL_law wsX12_keep := goodIn_r _ [1019, 1020, 85, 82, 89, 90, 211, 212, 5, 213, 214, 215, 216, 217, 256, 257, 258, 259, 385, 386, 387, 388, 389, 390, 391, 392, 393, 394, 395, 396, 538, 539, 540, 541, 1212, 1213, 1214, 1215, 1216, 1217, 1218, 1219, 1220, 1221, 1222, 1223, 1224, 1225, 1226, 1227, 1228, 1229, 1230, 1231, 1232, 1233, 1234, 1235] (by decide +kernel) (by decide +kernel)
set_option maxRecDepth 20000 in
theorem gL_law_X12_keep : GoodIn wsL_law (wsV RL 175 RX12 yX12_keep wsX12_keep) := goodIn_app (goodIn_of _ (by decide +kernel)) ggL_law_X12_keep
set_option maxRecDepth 20000 in
theorem ggL_law_X11_row : GoodIn wsL_law wsX11_row := goodIn_r _ [1024, 31, 100, 101, 2, 102, 1025, 1026, 1027, 33, 1028, 77, 960, 76, 1015, 957, 958, 959, 107, 1029, 1030, 1031, 1032, 1204, 1205, 1206, 1207, 1208, 1209, 1210, 1211, 1272, 1273, 1274, 1275] (by decide +kernel) (by decide +kernel)
set_option maxRecDepth 20000 in
theorem gL_law_X11_row : GoodIn wsL_law (wsV RL 176 RX11 yX11_row wsX11_row) := goodIn_app (goodIn_of _ (by decide +kernel)) ggL_law_X11_row
set_option maxRecDepth 20000 in
theorem ggL_law_X12_row : GoodIn wsL_law wsX12_row := goodIn_r _ [1036, 255, 85, 86, 87, 88, 211, 212, 5, 213, 214, 215, 216, 217, 1212, 1213, 1214, 1215, 1216, 1217, 1218, 1219, 1220, 1221, 1222, 1223, 1224, 1225, 1226, 1227, 1228, 1229, 1230, 1231, 1232, 1233, 1234, 1235] (by decide +kernel) (by decide +kernel)
set_option maxRecDepth 20000 in
theorem gL_law_X12_row : GoodIn wsL_law (wsV RL 179 RX12 yX12_row wsX12_row) := goodIn_app (goodIn_of _ (by decide +kernel)) ggL_law_X12_row
set_option maxRecDepth 20000 in
theorem ggL_law_X11_put : GoodIn wsL_law wsX11_put := goodIn_r _ [1040, 31, 100, 101, 2, 102, 103, 104, 105, 33, 106, 107, 77, 1041, 113, 114, 115, 1042, 1043, 1044, 1045, 960, 1046, 1047, 1048, 1049, 76, 1204, 1205, 1206, 1207, 1208, 1209, 1210, 1211, 1272, 1273, 1274, 1275] (by decide +kernel) (by decide +kernel)
set_option maxRecDepth 20000 in
theorem gL_law_X11_put : GoodIn wsL_law (wsV RL 180 RX11 yX11_put wsX11_put) := goodIn_app (goodIn_of _ (by decide +kernel)) ggL_law_X11_put
set_option maxRecDepth 20000 in
theorem ggL_law_X12_put : GoodIn wsL_law wsX12_put := goodIn_r _ [1053, 87, 88, 86, 207, 208, 209, 5, 210, 85, 211, 212, 213, 214, 215, 216, 217, 1212, 1213, 1214, 1215, 1216, 1217, 1218, 1219, 1220, 1221, 1222, 1223, 1224, 1225, 1226, 1227, 1228, 1229, 1230, 1231, 1232, 1233, 1234, 1235] (by decide +kernel) (by decide +kernel)
set_option maxRecDepth 20000 in
theorem gL_law_X12_put : GoodIn wsL_law (wsV RL 183 RX12 yX12_put wsX12_put) := goodIn_app (goodIn_of _ (by decide +kernel)) ggL_law_X12_put
set_option maxRecDepth 20000 in
theorem ggL_law_L_element : GoodIn wsL_law wsL_element := goodIn_ca (goodIn_ca (goodIn_r _ [1057, 1058, 1059, 1060, 1061, 1062, 2, 1063, 1064, 1065, 1066, 1067, 31, 1068, 100, 101, 102, 1041, 113, 114, 33, 115, 77, 1042, 1043, 1044, 1045, 960, 1204, 1205, 1206, 1207, 1208, 1209, 1210, 1211, 1272, 1273, 1274, 1275] (by decide +kernel) (by decide +kernel)) (goodIn_sub (fun _ h => List.mem_append_left _ (List.mem_append_left _ (List.mem_append_right _ h))) (by decide +kernel))) (goodIn_sub (fun _ h => List.mem_append_left _ (List.mem_append_right _ h)) (by decide +kernel))
set_option maxRecDepth 20000 in
theorem gL_law_L_element : GoodIn wsL_law (va_wsS RL 184 yL_element wsL_element) := goodIn_app (goodIn_of _ (by decide +kernel)) ggL_law_L_element
set_option maxRecDepth 20000 in
theorem ggL_law_X12_element : GoodIn wsL_law wsX12_element := goodIn_r _ [1072, 85, 87, 1073, 88, 211, 212, 5, 213, 214, 215, 216, 217, 1212, 1213, 1214, 1215, 1216, 1217, 1218, 1219, 1220, 1221, 1222, 1223, 1224, 1225, 1226, 1227, 1228, 1229, 1230, 1231, 1232, 1233, 1234, 1235] (by decide +kernel) (by decide +kernel)
set_option maxRecDepth 20000 in
theorem gL_law_X12_element : GoodIn wsL_law (wsV RL 189 RX12 yX12_element wsX12_element) := goodIn_app (goodIn_of _ (by decide +kernel)) ggL_law_X12_element
set_option maxRecDepth 20000 in
theorem ggL_law_X12_thrown : GoodIn wsL_law wsX12_thrown := goodIn_r _ [1077, 1073, 1212, 1213, 1214, 1215, 1216, 1217, 1218, 1219, 1220, 1221, 1222, 1223, 1224, 1225, 1226, 1227, 1228, 1229, 1230, 1231, 1232, 1233, 1234, 1235] (by decide +kernel) (by decide +kernel)
set_option maxRecDepth 20000 in
theorem gL_law_X12_thrown : GoodIn wsL_law (wsV RL 190 RX12 yX12_thrown wsX12_thrown) := goodIn_app (goodIn_of _ (by decide +kernel)) ggL_law_X12_thrown
set_option maxRecDepth 20000 in
theorem ggL_law_X11_copy : GoodIn wsL_law wsX11_copy := goodIn_r _ [1081, 31, 1082, 1068, 1083, 197, 198, 199, 100, 101, 2, 102, 103, 104, 105, 33, 106, 107, 77, 1041, 113, 114, 115, 108, 109, 110, 111, 112, 1042, 1043, 1044, 1045, 960, 1204, 1205, 1206, 1207, 1208, 1209, 1210, 1211, 1272, 1273, 1274, 1275] (by decide +kernel) (by decide +kernel)
set_option maxRecDepth 20000 in
theorem gL_law_X11_copy : GoodIn wsL_law (wsV RL 193 RX11 yX11_copy wsX11_copy) := goodIn_app (goodIn_of _ (by decide +kernel)) ggL_law_X11_copy
set_option maxRecDepth 20000 in
theorem ggL_law_X12_copy : GoodIn wsL_law wsX12_copy := goodIn_r _ [1087, 85, 86, 87, 88, 211, 212, 5, 213, 214, 215, 216, 217, 1212, 1213, 1214, 1215, 1216, 1217, 1218, 1219, 1220, 1221, 1222, 1223, 1224, 1225, 1226, 1227, 1228, 1229, 1230, 1231, 1232, 1233, 1234, 1235] (by decide +kernel) (by decide +kernel)
set_option maxRecDepth 20000 in
theorem gL_law_X12_copy : GoodIn wsL_law (wsV RL 197 RX12 yX12_copy wsX12_copy) := goodIn_app (goodIn_of _ (by decide +kernel)) ggL_law_X12_copy
set_option maxRecDepth 20000 in
theorem ggL_law_X11_breadth : GoodIn wsL_law wsX11_breadth := goodIn_r _ [1091, 31, 1092, 1093, 1094, 1095, 2, 1096, 100, 101, 102, 103, 104, 105, 33, 106, 107, 77, 1097, 1098, 1099, 1100, 1101, 966, 1102, 1103, 1104, 1105, 981, 1106, 991, 1107, 1108, 978, 1109, 1110, 1111, 1112, 1113, 969, 1114, 1115, 1116, 1117, 1118, 1119, 1120, 972, 1121, 1122, 1123, 1124, 1125, 1126, 1127, 1128, 975, 1129, 1130, 1131, 1132, 1204, 1205, 1206, 1207, 1208, 1209, 1210, 1211, 1272, 1273, 1274, 1275, 1276, 1277, 1278, 1279, 1292, 1293, 1294, 1295, 1296, 1297, 1298, 1299, 1284, 1285, 1286, 1287, 1280, 1281, 1282, 1283, 1288, 1289, 1290, 1291] (by decide +kernel) (by decide +kernel)
set_option maxRecDepth 20000 in
theorem gL_law_X11_breadth : GoodIn wsL_law (wsV RL 198 RX11 yX11_breadth wsX11_breadth) := goodIn_app (goodIn_of _ (by decide +kernel)) ggL_law_X11_breadth
set_option maxRecDepth 20000 in
theorem ggL_law_X12_breadth : GoodIn wsL_law wsX12_breadth := goodIn_r _ [1136, 89, 1137, 1138, 1139, 5, 1140, 85, 211, 212, 213, 214, 215, 216, 217, 1212, 1213, 1214, 1215, 1216, 1217, 1218, 1219, 1220, 1221, 1222, 1223, 1224, 1225, 1226, 1227, 1228, 1229, 1230, 1231, 1232, 1233, 1234, 1235] (by decide +kernel) (by decide +kernel)
set_option maxRecDepth 20000 in
theorem gL_law_X12_breadth : GoodIn wsL_law (wsV RL 201 RX12 yX12_breadth wsX12_breadth) := goodIn_app (goodIn_of _ (by decide +kernel)) ggL_law_X12_breadth
set_option maxRecDepth 20000 in
theorem ggL_law_X11_toss : GoodIn wsL_law wsX11_toss := goodIn_ca (goodIn_r _ [1144, 31, 1092, 1093, 1094, 1095, 2, 1096, 100, 101, 102, 103, 104, 105, 33, 106, 107, 77, 1145, 1146, 1147, 1148, 981, 1149, 1150, 1151, 1152, 1153, 1154, 1155, 1067, 1156, 1157, 1158, 1159, 1160, 992, 990, 1161, 1162, 1163, 1164, 1165, 1166, 972, 1167, 1168, 1169, 1170, 1171, 1172, 1173, 1174, 1175, 1176, 1177, 1178, 1179, 1180, 989, 1181, 1182, 1183, 978, 1184, 1185, 1186, 1187, 1188, 1189, 1190, 1191, 1192, 975, 1193, 1194, 1195, 1196, 1197, 1198, 1199, 1204, 1205, 1206, 1207, 1208, 1209, 1210, 1211, 1272, 1273, 1274, 1275, 1276, 1277, 1278, 1279, 1292, 1293, 1294, 1295, 1296, 1297, 1298, 1299, 1284, 1285, 1286, 1287, 1280, 1281, 1282, 1283, 1288, 1289, 1290, 1291] (by decide +kernel) (by decide +kernel)) (goodIn_sub (fun _ h => List.mem_append_right _ h) (by decide +kernel))
set_option maxRecDepth 20000 in
theorem gL_law_X11_toss : GoodIn wsL_law (wsV RL 202 RX11 yX11_toss wsX11_toss) := goodIn_app (goodIn_of _ (by decide +kernel)) ggL_law_X11_toss
set_option maxRecDepth 20000 in
theorem ggL_law_X12_toss : GoodIn wsL_law wsX12_toss := goodIn_r _ [1203, 90, 1137, 1138, 1139, 5, 1140, 85, 211, 212, 213, 214, 215, 216, 217, 1212, 1213, 1214, 1215, 1216, 1217, 1218, 1219, 1220, 1221, 1222, 1223, 1224, 1225, 1226, 1227, 1228, 1229, 1230, 1231, 1232, 1233, 1234, 1235] (by decide +kernel) (by decide +kernel)
set_option maxRecDepth 20000 in
theorem gL_law_X12_toss : GoodIn wsL_law (wsV RL 205 RX12 yX12_toss wsX12_toss) := goodIn_app (goodIn_of _ (by decide +kernel)) ggL_law_X12_toss
