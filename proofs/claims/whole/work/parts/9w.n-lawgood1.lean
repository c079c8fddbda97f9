/-! the law: its callees' words among its own, 1 -/
set_option maxRecDepth 20000 in
theorem ggL_law_X11_init : GoodIn wsL_law wsX11_init := goodIn_r _ [9, 10, 11, 12, 13, 14, 15, 16, 17, 18, 19, 20, 21, 22, 23, 24, 25, 26, 27, 28, 29, 30, 31, 32, 33, 34, 35, 36, 37, 38, 39, 40, 41, 42, 43, 44, 45, 46, 47, 48, 49, 50, 51, 52, 53, 54, 55, 56, 57, 58, 6, 59, 60, 61, 62, 63, 64, 65, 66, 67, 68, 69, 70, 71, 72, 73, 74, 75, 76, 77, 1236, 1237, 1238, 1239, 1240, 1241, 1242, 1243, 1244, 1204, 1205, 1206, 1207, 1208, 1209, 1210, 1211, 1245, 1246, 1247, 1248, 1249, 1250, 1251, 1252, 1253, 1254, 1255, 1256, 1257, 1258, 1259, 1260, 1261, 1262, 1263, 1264, 1265, 1266, 1267, 1268, 1269, 1270, 1271, 1272, 1273, 1274, 1275] (by decide +kernel) (by decide +kernel)
set_option maxRecDepth 20000 in
theorem gL_law_X11_init : GoodIn wsL_law (wsX11_init) := ggL_law_X11_init
set_option maxRecDepth 20000 in
theorem ggL_law_X12_init : GoodIn wsL_law wsX12_init := goodIn_r _ [80, 81, 11, 12, 38, 82, 83, 84, 85, 86, 87, 88, 89, 90, 91, 92, 93, 1212, 1213, 1214, 1215, 1216, 1217, 1218, 1219, 1220, 1221, 1222, 1223, 1224, 1225, 1226, 1227, 1228, 1229, 1230, 1231, 1232, 1233, 1234, 1235] (by decide +kernel) (by decide +kernel)
set_option maxRecDepth 20000 in
theorem gL_law_X12_init : GoodIn wsL_law (wsX12_init) := ggL_law_X12_init
set_option maxRecDepth 20000 in
theorem ggL_law_X11_market : GoodIn wsL_law wsX11_market := goodIn_r _ [97, 31, 21, 16, 98, 99, 100, 101, 2, 102, 103, 104, 105, 33, 106, 107, 77, 108, 109, 110, 111, 112, 113, 114, 115, 116, 117, 118, 20, 119, 51, 120, 121, 122, 123, 124, 125, 126, 127, 15, 128, 129, 130, 131, 132, 133, 134, 135, 136, 137, 138, 139, 140, 141, 142, 143, 144, 145, 146, 147, 148, 149, 150, 151, 152, 153, 154, 155, 156, 157, 158, 159, 52, 160, 161, 162, 163, 164, 165, 166, 167, 168, 169, 170, 171, 39, 40, 41, 172, 173, 174, 175, 42, 43, 45, 176, 177, 178, 179, 180, 181, 182, 183, 184, 185, 186, 187, 188, 189, 190, 191, 192, 193, 194, 195, 196, 197, 198, 199, 1204, 1205, 1206, 1207, 1208, 1209, 1210, 1211, 1245, 1246, 1247, 1248, 1249, 1250, 1251, 1252, 1253, 1272, 1273, 1274, 1275, 1236, 1237, 1238, 1239, 1240, 1241, 1242, 1243, 1244] (by decide +kernel) (by decide +kernel)
set_option maxRecDepth 20000 in
theorem gL_law_X11_market : GoodIn wsL_law (wsV RL 21 RX11 yX11_market wsX11_market) := goodIn_app (goodIn_of _ (by decide +kernel)) ggL_law_X11_market
set_option maxRecDepth 20000 in
theorem ggL_law_X12_market : GoodIn wsL_law wsX12_market := goodIn_r _ [203, 204, 87, 205, 206, 84, 82, 207, 208, 209, 5, 210, 85, 86, 211, 212, 213, 214, 215, 216, 217, 218, 219, 220, 221, 222, 223, 224, 225, 226, 88, 227, 228, 229, 230, 231, 232, 233, 91, 234, 235, 236, 237, 238, 239, 240, 241, 242, 1212, 1213, 1214, 1215, 1216, 1217, 1218, 1219, 1220, 1221, 1222, 1223, 1224, 1225, 1226, 1227, 1228, 1229, 1230, 1231, 1232, 1233, 1234, 1235] (by decide +kernel) (by decide +kernel)
set_option maxRecDepth 20000 in
theorem gL_law_X12_market : GoodIn wsL_law (wsV RL 25 RX12 yX12_market wsX12_market) := goodIn_app (goodIn_of _ (by decide +kernel)) ggL_law_X12_market
set_option maxRecDepth 20000 in
theorem ggL_law_X11_sort : GoodIn wsL_law wsX11_sort := goodIn_r _ [246, 99, 16, 247, 248, 249, 250, 185, 186, 15, 187, 129, 1204, 1205, 1206, 1207, 1208, 1209, 1210, 1211, 1236, 1237, 1238, 1239, 1240, 1241, 1242, 1243, 1244] (by decide +kernel) (by decide +kernel)
set_option maxRecDepth 20000 in
theorem gL_law_X11_sort : GoodIn wsL_law (wsV RL 26 RX11 yX11_sort wsX11_sort) := goodIn_app (goodIn_of _ (by decide +kernel)) ggL_law_X11_sort
set_option maxRecDepth 20000 in
theorem ggL_law_X12_sort : GoodIn wsL_law wsX12_sort := goodIn_r _ [254, 255, 82, 256, 257, 258, 5, 259, 260, 261, 262, 263, 215, 216, 217, 1212, 1213, 1214, 1215, 1216, 1217, 1218, 1219, 1220, 1221, 1222, 1223, 1224, 1225, 1226, 1227, 1228, 1229, 1230, 1231, 1232, 1233, 1234, 1235] (by decide +kernel) (by decide +kernel)
set_option maxRecDepth 20000 in
theorem gL_law_X12_sort : GoodIn wsL_law (wsV RL 30 RX12 yX12_sort wsX12_sort) := goodIn_app (goodIn_of _ (by decide +kernel)) ggL_law_X12_sort
set_option maxRecDepth 20000 in
theorem ggL_law_X11_mark : GoodIn wsL_law wsX11_mark := goodIn_r _ [267, 99, 16, 268, 269, 270, 181, 182, 15, 183, 130, 271, 272, 273, 274, 43, 250, 185, 186, 187, 129, 1204, 1205, 1206, 1207, 1208, 1209, 1210, 1211, 1236, 1237, 1238, 1239, 1240, 1241, 1242, 1243, 1244] (by decide +kernel) (by decide +kernel)
set_option maxRecDepth 20000 in
theorem gL_law_X11_mark : GoodIn wsL_law (wsV RL 31 RX11 yX11_mark wsX11_mark) := goodIn_app (goodIn_of _ (by decide +kernel)) ggL_law_X11_mark
set_option maxRecDepth 20000 in
theorem ggL_law_X12_mark : GoodIn wsL_law wsX12_mark := goodIn_r _ [278, 82, 256, 257, 258, 5, 259, 279, 280, 281, 282, 215, 216, 217, 1212, 1213, 1214, 1215, 1216, 1217, 1218, 1219, 1220, 1221, 1222, 1223, 1224, 1225, 1226, 1227, 1228, 1229, 1230, 1231, 1232, 1233, 1234, 1235] (by decide +kernel) (by decide +kernel)
set_option maxRecDepth 20000 in
theorem gL_law_X12_mark : GoodIn wsL_law (wsV RL 34 RX12 yX12_mark wsX12_mark) := goodIn_app (goodIn_of _ (by decide +kernel)) ggL_law_X12_mark
set_option maxRecDepth 20000 in
theorem ggL_law_X11_change : GoodIn wsL_law wsX11_change := goodIn_r _ [286, 99, 16, 248, 249, 250, 185, 186, 15, 187, 129, 287, 288, 2, 289, 1204, 1205, 1206, 1207, 1208, 1209, 1210, 1211, 1236, 1237, 1238, 1239, 1240, 1241, 1242, 1243, 1244] (by decide +kernel) (by decide +kernel)
set_option maxRecDepth 20000 in
theorem gL_law_X11_change : GoodIn wsL_law (wsV RL 35 RX11 yX11_change wsX11_change) := goodIn_app (goodIn_of _ (by decide +kernel)) ggL_law_X11_change
set_option maxRecDepth 20000 in
theorem ggL_law_X12_change : GoodIn wsL_law wsX12_change := goodIn_r _ [293, 294, 256, 257, 258, 5, 259, 82, 260, 261, 262, 263, 215, 216, 217, 295, 296, 297, 298, 1212, 1213, 1214, 1215, 1216, 1217, 1218, 1219, 1220, 1221, 1222, 1223, 1224, 1225, 1226, 1227, 1228, 1229, 1230, 1231, 1232, 1233, 1234, 1235] (by decide +kernel) (by decide +kernel)
set_option maxRecDepth 20000 in
theorem gL_law_X12_change : GoodIn wsL_law (wsV RL 39 RX12 yX12_change wsX12_change) := goodIn_app (goodIn_of _ (by decide +kernel)) ggL_law_X12_change
set_option maxRecDepth 20000 in
theorem ggL_law_X11_cost : GoodIn wsL_law wsX11_cost := goodIn_r _ [302, 99, 16, 269, 270, 181, 182, 15, 183, 130, 303, 304, 305, 2, 306, 268, 250, 185, 186, 187, 129, 1204, 1205, 1206, 1207, 1208, 1209, 1210, 1211, 1236, 1237, 1238, 1239, 1240, 1241, 1242, 1243, 1244] (by decide +kernel) (by decide +kernel)
set_option maxRecDepth 20000 in
theorem gL_law_X11_cost : GoodIn wsL_law (wsV RL 40 RX11 yX11_cost wsX11_cost) := goodIn_app (goodIn_of _ (by decide +kernel)) ggL_law_X11_cost
set_option maxRecDepth 20000 in
theorem ggL_law_X12_cost : GoodIn wsL_law wsX12_cost := goodIn_r _ [310, 82, 311, 294, 256, 257, 258, 5, 259, 279, 280, 281, 282, 215, 216, 217, 295, 296, 297, 298, 1212, 1213, 1214, 1215, 1216, 1217, 1218, 1219, 1220, 1221, 1222, 1223, 1224, 1225, 1226, 1227, 1228, 1229, 1230, 1231, 1232, 1233, 1234, 1235] (by decide +kernel) (by decide +kernel)
set_option maxRecDepth 20000 in
theorem gL_law_X12_cost : GoodIn wsL_law (wsV RL 43 RX12 yX12_cost wsX12_cost) := goodIn_app (goodIn_of _ (by decide +kernel)) ggL_law_X12_cost
set_option maxRecDepth 20000 in
theorem ggL_law_X11_think : GoodIn wsL_law wsX11_think := goodIn_r _ [315, 99, 16, 316, 270, 181, 182, 15, 183, 130, 250, 185, 186, 187, 129, 271, 272, 273, 274, 43, 1204, 1205, 1206, 1207, 1208, 1209, 1210, 1211, 1236, 1237, 1238, 1239, 1240, 1241, 1242, 1243, 1244] (by decide +kernel) (by decide +kernel)
set_option maxRecDepth 20000 in
theorem gL_law_X11_think : GoodIn wsL_law (wsV RL 44 RX11 yX11_think wsX11_think) := goodIn_app (goodIn_of _ (by decide +kernel)) ggL_law_X11_think
set_option maxRecDepth 20000 in
theorem ggL_law_X12_think : GoodIn wsL_law wsX12_think := goodIn_r _ [320, 82, 256, 257, 258, 5, 259, 279, 280, 281, 282, 215, 216, 217, 295, 296, 297, 298, 1212, 1213, 1214, 1215, 1216, 1217, 1218, 1219, 1220, 1221, 1222, 1223, 1224, 1225, 1226, 1227, 1228, 1229, 1230, 1231, 1232, 1233, 1234, 1235] (by decide +kernel) (by decide +kernel)
set_option maxRecDepth 20000 in
theorem gL_law_X12_think : GoodIn wsL_law (wsV RL 47 RX12 yX12_think wsX12_think) := goodIn_app (goodIn_of _ (by decide +kernel)) ggL_law_X12_think
set_option maxRecDepth 20000 in
theorem ggL_law_X11_pay : GoodIn wsL_law wsX11_pay := goodIn_r _ [324, 99, 16, 325, 25, 326, 327, 328, 329, 330, 15, 331, 129, 130, 270, 181, 182, 183, 287, 288, 2, 289, 332, 333, 334, 24, 335, 63, 336, 59, 337, 60, 338, 339, 340, 341, 342, 343, 58, 344, 345, 346, 347, 348, 349, 350, 351, 352, 353, 354, 355, 356, 357, 358, 359, 360, 185, 186, 187, 361, 362, 363, 364, 40, 365, 366, 367, 368, 369, 370, 371, 372, 373, 374, 375, 376, 377, 1204, 1205, 1206, 1207, 1208, 1209, 1210, 1211, 1254, 1255, 1256, 1257, 1258, 1259, 1260, 1261, 1262, 1263, 1264, 1265, 1266, 1267, 1236, 1237, 1238, 1239, 1240, 1241, 1242, 1243, 1244] (by decide +kernel) (by decide +kernel)
set_option maxRecDepth 20000 in
theorem gL_law_X11_pay : GoodIn wsL_law (wsV RL 48 RX11 yX11_pay wsX11_pay) := goodIn_app (goodIn_of _ (by decide +kernel)) ggL_law_X11_pay
set_option maxRecDepth 20000 in
theorem ggL_law_X12_pay : GoodIn wsL_law wsX12_pay := goodIn_r _ [381, 382, 383, 384, 256, 257, 258, 5, 259, 82, 385, 386, 387, 388, 389, 390, 391, 392, 393, 215, 216, 217, 394, 395, 396, 279, 280, 281, 282, 397, 398, 399, 400, 401, 402, 403, 404, 405, 406, 407, 408, 409, 410, 411, 1212, 1213, 1214, 1215, 1216, 1217, 1218, 1219, 1220, 1221, 1222, 1223, 1224, 1225, 1226, 1227, 1228, 1229, 1230, 1231, 1232, 1233, 1234, 1235] (by decide +kernel) (by decide +kernel)
set_option maxRecDepth 20000 in
theorem gL_law_X12_pay : GoodIn wsL_law (wsV RL 52 RX12 yX12_pay wsX12_pay) := goodIn_app (goodIn_of _ (by decide +kernel)) ggL_law_X12_pay
set_option maxRecDepth 20000 in
theorem ggL_law_X11_gets : GoodIn wsL_law wsX11_gets := goodIn_r _ [415, 99, 16, 325, 25, 328, 329, 330, 15, 331, 129, 130, 250, 185, 186, 187, 287, 288, 2, 289, 332, 333, 334, 24, 335, 63, 336, 59, 337, 60, 338, 339, 340, 341, 342, 343, 58, 344, 345, 346, 347, 348, 349, 350, 351, 352, 353, 354, 355, 356, 357, 358, 359, 360, 361, 362, 363, 364, 40, 365, 366, 367, 368, 416, 417, 418, 419, 420, 421, 422, 423, 62, 424, 425, 426, 427, 61, 428, 429, 430, 431, 432, 433, 434, 435, 436, 369, 370, 371, 372, 373, 374, 375, 376, 377, 1204, 1205, 1206, 1207, 1208, 1209, 1210, 1211, 1236, 1237, 1238, 1239, 1240, 1241, 1242, 1243, 1244, 1254, 1255, 1256, 1257, 1258, 1259, 1260, 1261, 1262, 1263, 1264, 1265, 1266, 1267] (by decide +kernel) (by decide +kernel)
set_option maxRecDepth 20000 in
theorem gL_law_X11_gets : GoodIn wsL_law (wsV RL 53 RX11 yX11_gets wsX11_gets) := goodIn_app (goodIn_of _ (by decide +kernel)) ggL_law_X11_gets
set_option maxRecDepth 20000 in
theorem ggL_law_X12_gets : GoodIn wsL_law wsX12_gets := goodIn_r _ [440, 382, 383, 384, 256, 257, 258, 5, 259, 82, 385, 386, 387, 388, 389, 390, 391, 392, 393, 215, 216, 217, 394, 395, 396, 260, 261, 262, 263, 441, 442, 443, 444, 92, 445, 242, 397, 398, 399, 400, 401, 402, 403, 404, 405, 406, 407, 408, 409, 410, 411, 1212, 1213, 1214, 1215, 1216, 1217, 1218, 1219, 1220, 1221, 1222, 1223, 1224, 1225, 1226, 1227, 1228, 1229, 1230, 1231, 1232, 1233, 1234, 1235] (by decide +kernel) (by decide +kernel)
set_option maxRecDepth 20000 in
theorem gL_law_X12_gets : GoodIn wsL_law (wsV RL 56 RX12 yX12_gets wsX12_gets) := goodIn_app (goodIn_of _ (by decide +kernel)) ggL_law_X12_gets
set_option maxRecDepth 20000 in
theorem ggL_law_X11_rather : GoodIn wsL_law wsX11_rather := goodIn_r _ [449, 25, 450, 451, 452, 2, 453, 99, 16, 328, 329, 330, 15, 331, 129, 130, 332, 333, 334, 24, 335, 63, 336, 59, 337, 60, 338, 339, 340, 341, 342, 343, 58, 344, 345, 346, 347, 348, 349, 350, 351, 352, 353, 354, 355, 356, 357, 358, 359, 360, 185, 186, 187, 361, 362, 363, 364, 40, 365, 366, 367, 368, 454, 455, 456, 457, 458, 459, 460, 461, 462, 420, 421, 422, 423, 62, 424, 425, 426, 427, 61, 428, 433, 434, 435, 436, 1204, 1205, 1206, 1207, 1208, 1209, 1210, 1211, 1236, 1237, 1238, 1239, 1240, 1241, 1242, 1243, 1244, 1254, 1255, 1256, 1257, 1258, 1259, 1260, 1261, 1262, 1263, 1264, 1265, 1266, 1267] (by decide +kernel) (by decide +kernel)
set_option maxRecDepth 20000 in
theorem gL_law_X11_rather : GoodIn wsL_law (wsV RL 57 RX11 yX11_rather wsX11_rather) := goodIn_app (goodIn_of _ (by decide +kernel)) ggL_law_X11_rather
set_option maxRecDepth 20000 in
theorem ggL_law_X12_rather : GoodIn wsL_law wsX12_rather := goodIn_r _ [466, 256, 257, 258, 5, 259, 82, 385, 386, 387, 388, 389, 390, 391, 392, 393, 215, 216, 217, 394, 395, 396, 467, 468, 469, 470, 383, 384, 441, 442, 443, 444, 92, 445, 242, 397, 398, 399, 400, 401, 402, 403, 404, 405, 279, 280, 281, 282, 1212, 1213, 1214, 1215, 1216, 1217, 1218, 1219, 1220, 1221, 1222, 1223, 1224, 1225, 1226, 1227, 1228, 1229, 1230, 1231, 1232, 1233, 1234, 1235] (by decide +kernel) (by decide +kernel)
set_option maxRecDepth 20000 in
theorem gL_law_X12_rather : GoodIn wsL_law (wsV RL 60 RX12 yX12_rather wsX12_rather) := goodIn_app (goodIn_of _ (by decide +kernel)) ggL_law_X12_rather
set_option maxRecDepth 20000 in
theorem ggL_law_X11_next : GoodIn wsL_law wsX11_next := goodIn_r _ [474, 99, 16, 475, 476, 477, 15, 478, 129, 479, 480, 481, 2, 482, 25, 328, 329, 330, 331, 130, 332, 333, 334, 24, 335, 63, 336, 59, 337, 60, 338, 339, 340, 341, 342, 343, 58, 344, 345, 346, 347, 348, 349, 350, 351, 352, 353, 354, 355, 356, 357, 358, 359, 360, 185, 186, 187, 361, 362, 363, 364, 40, 365, 366, 367, 368, 483, 484, 485, 486, 462, 487, 455, 456, 457, 458, 459, 460, 461, 420, 421, 422, 423, 62, 424, 425, 426, 427, 61, 428, 433, 434, 435, 436, 1204, 1205, 1206, 1207, 1208, 1209, 1210, 1211, 1236, 1237, 1238, 1239, 1240, 1241, 1242, 1243, 1244, 1254, 1255, 1256, 1257, 1258, 1259, 1260, 1261, 1262, 1263, 1264, 1265, 1266, 1267] (by decide +kernel) (by decide +kernel)
set_option maxRecDepth 20000 in
theorem gL_law_X11_next : GoodIn wsL_law (wsV RL 61 RX11 yX11_next wsX11_next) := goodIn_app (goodIn_of _ (by decide +kernel)) ggL_law_X11_next
set_option maxRecDepth 20000 in
theorem ggL_law_X12_next : GoodIn wsL_law wsX12_next := goodIn_r _ [491, 256, 257, 258, 5, 259, 82, 390, 391, 392, 393, 492, 493, 494, 495, 385, 386, 387, 388, 389, 215, 216, 217, 394, 395, 396, 467, 468, 469, 470, 383, 384, 441, 442, 443, 444, 92, 445, 242, 397, 398, 399, 400, 401, 402, 403, 404, 405, 279, 280, 281, 282, 1212, 1213, 1214, 1215, 1216, 1217, 1218, 1219, 1220, 1221, 1222, 1223, 1224, 1225, 1226, 1227, 1228, 1229, 1230, 1231, 1232, 1233, 1234, 1235] (by decide +kernel) (by decide +kernel)
set_option maxRecDepth 20000 in
theorem gL_law_X12_next : GoodIn wsL_law (wsV RL 64 RX12 yX12_next wsX12_next) := goodIn_app (goodIn_of _ (by decide +kernel)) ggL_law_X12_next
set_option maxRecDepth 20000 in
theorem ggL_law_X11_all : GoodIn wsL_law wsX11_all := goodIn_r _ [499, 99, 25, 500, 16, 475, 476, 477, 15, 478, 129, 479, 480, 481, 2, 482, 328, 329, 330, 331, 130, 332, 333, 334, 24, 335, 63, 336, 59, 337, 60, 338, 339, 340, 341, 342, 343, 58, 344, 345, 346, 347, 348, 349, 350, 351, 352, 353, 354, 355, 356, 357, 358, 359, 360, 185, 186, 187, 361, 362, 363, 364, 40, 365, 366, 367, 368, 483, 484, 485, 486, 462, 487, 455, 456, 457, 458, 459, 460, 461, 420, 421, 422, 423, 62, 424, 425, 426, 427, 61, 428, 433, 434, 435, 436, 501, 502, 503, 504, 505, 506, 507, 508, 509, 510, 511, 512, 513, 514, 515, 516, 517, 518, 519, 520, 521, 522, 523, 524, 430, 431, 432, 525, 417, 418, 419, 1204, 1205, 1206, 1207, 1208, 1209, 1210, 1211, 1254, 1255, 1256, 1257, 1258, 1259, 1260, 1261, 1262, 1263, 1264, 1265, 1266, 1267, 1236, 1237, 1238, 1239, 1240, 1241, 1242, 1243, 1244] (by decide +kernel) (by decide +kernel)
set_option maxRecDepth 20000 in
theorem gL_law_X11_all : GoodIn wsL_law (wsV RL 65 RX11 yX11_all wsX11_all) := goodIn_app (goodIn_of _ (by decide +kernel)) ggL_law_X11_all
set_option maxRecDepth 20000 in
theorem ggL_law_X12_all : GoodIn wsL_law wsX12_all := goodIn_r _ [529, 255, 401, 256, 257, 258, 5, 259, 82, 215, 216, 217, 530, 531, 532, 533, 390, 391, 392, 393, 492, 493, 494, 495, 385, 386, 387, 388, 389, 394, 395, 396, 467, 468, 469, 470, 383, 384, 441, 442, 443, 444, 92, 445, 242, 397, 398, 399, 400, 402, 403, 404, 405, 279, 280, 281, 282, 534, 535, 536, 537, 538, 539, 540, 541, 542, 543, 544, 545, 1212, 1213, 1214, 1215, 1216, 1217, 1218, 1219, 1220, 1221, 1222, 1223, 1224, 1225, 1226, 1227, 1228, 1229, 1230, 1231, 1232, 1233, 1234, 1235] (by decide +kernel) (by decide +kernel)
set_option maxRecDepth 20000 in
theorem gL_law_X12_all : GoodIn wsL_law (wsV RL 68 RX12 yX12_all wsX12_all) := goodIn_app (goodIn_of _ (by decide +kernel)) ggL_law_X12_all
set_option maxRecDepth 20000 in
theorem ggL_law_X11_falls : GoodIn wsL_law wsX11_falls := goodIn_r _ [549, 25, 550, 551, 552, 2, 553, 450, 451, 452, 453, 99, 16, 328, 329, 330, 15, 331, 129, 130, 479, 480, 481, 482, 332, 333, 334, 24, 335, 63, 336, 59, 337, 60, 338, 339, 340, 341, 342, 343, 58, 344, 345, 346, 347, 348, 349, 350, 351, 352, 353, 354, 355, 356, 357, 358, 359, 360, 185, 186, 187, 361, 362, 363, 364, 40, 365, 366, 367, 368, 483, 484, 485, 486, 462, 487, 455, 456, 457, 458, 459, 460, 461, 420, 421, 422, 423, 62, 424, 425, 426, 427, 61, 428, 433, 434, 435, 436, 501, 502, 503, 504, 505, 506, 507, 508, 509, 510, 511, 512, 513, 514, 515, 516, 517, 518, 519, 520, 521, 522, 523, 524, 430, 431, 432, 525, 417, 418, 419, 1204, 1205, 1206, 1207, 1208, 1209, 1210, 1211, 1236, 1237, 1238, 1239, 1240, 1241, 1242, 1243, 1244, 1254, 1255, 1256, 1257, 1258, 1259, 1260, 1261, 1262, 1263, 1264, 1265, 1266, 1267] (by decide +kernel) (by decide +kernel)
set_option maxRecDepth 20000 in
theorem gL_law_X11_falls : GoodIn wsL_law (wsV RL 69 RX11 yX11_falls wsX11_falls) := goodIn_app (goodIn_of _ (by decide +kernel)) ggL_law_X11_falls
set_option maxRecDepth 20000 in
theorem ggL_law_X12_falls : GoodIn wsL_law wsX12_falls := goodIn_r _ [557, 256, 257, 258, 5, 259, 82, 385, 386, 387, 388, 389, 390, 391, 392, 393, 215, 216, 217, 394, 395, 396, 492, 493, 494, 495, 467, 468, 469, 470, 383, 384, 441, 442, 443, 444, 92, 445, 242, 397, 398, 399, 400, 401, 402, 403, 404, 405, 279, 280, 281, 282, 534, 535, 536, 537, 538, 539, 540, 541, 542, 543, 544, 545, 1212, 1213, 1214, 1215, 1216, 1217, 1218, 1219, 1220, 1221, 1222, 1223, 1224, 1225, 1226, 1227, 1228, 1229, 1230, 1231, 1232, 1233, 1234, 1235] (by decide +kernel) (by decide +kernel)
set_option maxRecDepth 20000 in
theorem gL_law_X12_falls : GoodIn wsL_law (wsV RL 72 RX12 yX12_falls wsX12_falls) := goodIn_app (goodIn_of _ (by decide +kernel)) ggL_law_X12_falls
set_option maxRecDepth 20000 in
theorem ggL_law_X11_barred : GoodIn wsL_law wsX11_barred := goodIn_r _ [561, 99, 16, 25, 270, 181, 182, 15, 183, 130, 250, 185, 186, 187, 129, 550, 551, 552, 2, 553, 450, 451, 452, 453, 328, 329, 330, 331, 479, 480, 481, 482, 332, 333, 334, 24, 335, 63, 336, 59, 337, 60, 338, 339, 340, 341, 342, 343, 58, 344, 345, 346, 347, 348, 349, 350, 351, 352, 353, 354, 355, 356, 357, 358, 359, 360, 361, 362, 363, 364, 40, 365, 366, 367, 368, 483, 484, 485, 486, 462, 487, 455, 456, 457, 458, 459, 460, 461, 420, 421, 422, 423, 62, 424, 425, 426, 427, 61, 428, 433, 434, 435, 436, 562, 563, 514, 515, 516, 517, 518, 519, 520, 521, 522, 523, 524, 430, 431, 432, 525, 417, 418, 419, 1204, 1205, 1206, 1207, 1208, 1209, 1210, 1211, 1236, 1237, 1238, 1239, 1240, 1241, 1242, 1243, 1244, 1254, 1255, 1256, 1257, 1258, 1259, 1260, 1261, 1262, 1263, 1264, 1265, 1266, 1267] (by decide +kernel) (by decide +kernel)
set_option maxRecDepth 20000 in
theorem gL_law_X11_barred : GoodIn wsL_law (wsV RL 73 RX11 yX11_barred wsX11_barred) := goodIn_app (goodIn_of _ (by decide +kernel)) ggL_law_X11_barred
set_option maxRecDepth 20000 in
theorem ggL_law_X12_barred : GoodIn wsL_law wsX12_barred := goodIn_r _ [567, 256, 257, 258, 5, 259, 82, 385, 386, 387, 388, 389, 390, 391, 392, 393, 215, 216, 217, 394, 395, 396, 279, 280, 281, 282, 260, 261, 262, 263, 492, 493, 494, 495, 467, 468, 469, 470, 383, 384, 441, 442, 443, 444, 92, 445, 242, 397, 398, 399, 400, 401, 402, 403, 404, 405, 538, 539, 540, 541, 542, 543, 544, 545, 1212, 1213, 1214, 1215, 1216, 1217, 1218, 1219, 1220, 1221, 1222, 1223, 1224, 1225, 1226, 1227, 1228, 1229, 1230, 1231, 1232, 1233, 1234, 1235] (by decide +kernel) (by decide +kernel)
set_option maxRecDepth 20000 in
theorem gL_law_X12_barred : GoodIn wsL_law (wsV RL 76 RX12 yX12_barred wsX12_barred) := goodIn_app (goodIn_of _ (by decide +kernel)) ggL_law_X12_barred
set_option maxRecDepth 20000 in
theorem ggL_law_X11_lots : GoodIn wsL_law wsX11_lots := goodIn_r _ [571, 99, 16, 325, 25, 572, 573, 328, 329, 330, 15, 331, 129, 130, 250, 185, 186, 187, 270, 181, 182, 183, 287, 288, 2, 289, 574, 339, 340, 24, 341, 342, 63, 343, 58, 575, 576, 577, 578, 353, 337, 425, 352, 579, 580, 373, 367, 374, 581, 344, 345, 346, 347, 369, 370, 371, 372, 375, 376, 377, 1204, 1205, 1206, 1207, 1208, 1209, 1210, 1211, 1254, 1255, 1256, 1257, 1258, 1259, 1260, 1261, 1262, 1263, 1264, 1265, 1266, 1267, 1236, 1237, 1238, 1239, 1240, 1241, 1242, 1243, 1244] (by decide +kernel) (by decide +kernel)
set_option maxRecDepth 20000 in
theorem gL_law_X11_lots : GoodIn wsL_law (wsV RL 77 RX11 yX11_lots wsX11_lots) := goodIn_app (goodIn_of _ (by decide +kernel)) ggL_law_X11_lots
set_option maxRecDepth 20000 in
theorem ggL_law_X12_lots : GoodIn wsL_law wsX12_lots := goodIn_r _ [585, 382, 383, 384, 256, 257, 258, 5, 259, 82, 385, 386, 387, 388, 389, 390, 391, 392, 393, 215, 216, 217, 394, 395, 396, 260, 261, 262, 263, 279, 280, 281, 282, 586, 587, 588, 589, 538, 539, 540, 541, 406, 407, 408, 409, 410, 411, 1212, 1213, 1214, 1215, 1216, 1217, 1218, 1219, 1220, 1221, 1222, 1223, 1224, 1225, 1226, 1227, 1228, 1229, 1230, 1231, 1232, 1233, 1234, 1235] (by decide +kernel) (by decide +kernel)
set_option maxRecDepth 20000 in
theorem gL_law_X12_lots : GoodIn wsL_law (wsV RL 81 RX12 yX12_lots wsX12_lots) := goodIn_app (goodIn_of _ (by decide +kernel)) ggL_law_X12_lots
