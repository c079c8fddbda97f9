/-! the law: its callees' words among its own, 2 -/
set_option maxRecDepth 20000 in
theorem ggL_law_X11_apart : GoodIn wsL_law wsX11_apart := goodIn_r _ [593, 99, 16, 25, 475, 476, 477, 15, 478, 129, 328, 329, 330, 331, 130, 594, 595, 596, 24, 597, 342, 63, 343, 338, 339, 340, 341, 58, 598, 599, 600, 601, 602, 603, 604, 479, 480, 481, 2, 482, 332, 333, 334, 335, 336, 59, 337, 60, 344, 345, 346, 347, 348, 349, 350, 351, 352, 353, 354, 355, 356, 357, 358, 359, 360, 185, 186, 187, 361, 362, 363, 364, 40, 365, 366, 367, 368, 483, 484, 485, 486, 462, 487, 455, 456, 457, 458, 459, 460, 461, 420, 421, 422, 423, 62, 424, 425, 426, 427, 61, 428, 433, 434, 435, 436, 605, 606, 607, 608, 1204, 1205, 1206, 1207, 1208, 1209, 1210, 1211, 1236, 1237, 1238, 1239, 1240, 1241, 1242, 1243, 1244, 1254, 1255, 1256, 1257, 1258, 1259, 1260, 1261, 1262, 1263, 1264, 1265, 1266, 1267] (by decide +kernel) (by decide +kernel)
set_option maxRecDepth 20000 in
theorem gL_law_X11_apart : GoodIn wsL_law (wsV RL 82 RX11 yX11_apart wsX11_apart) := goodIn_app (goodIn_of _ (by decide +kernel)) ggL_law_X11_apart
set_option maxRecDepth 20000 in
theorem ggL_law_X12_apart : GoodIn wsL_law wsX12_apart := goodIn_r _ [612, 256, 257, 258, 5, 259, 82, 390, 391, 392, 393, 613, 614, 615, 616, 394, 395, 396, 492, 493, 494, 495, 385, 386, 387, 388, 389, 215, 216, 217, 467, 468, 469, 470, 383, 384, 441, 442, 443, 444, 92, 445, 242, 397, 398, 399, 400, 401, 402, 403, 404, 405, 279, 280, 281, 282, 617, 618, 619, 620, 1212, 1213, 1214, 1215, 1216, 1217, 1218, 1219, 1220, 1221, 1222, 1223, 1224, 1225, 1226, 1227, 1228, 1229, 1230, 1231, 1232, 1233, 1234, 1235] (by decide +kernel) (by decide +kernel)
set_option maxRecDepth 20000 in
theorem gL_law_X12_apart : GoodIn wsL_law (wsV RL 86 RX12 yX12_apart wsX12_apart) := goodIn_app (goodIn_of _ (by decide +kernel)) ggL_law_X12_apart
set_option maxRecDepth 20000 in
theorem ggL_law_X11_justNot : GoodIn wsL_law wsX11_justNot := goodIn_r _ [624, 25, 550, 551, 552, 2, 553, 450, 451, 452, 453, 99, 16, 328, 329, 330, 15, 331, 129, 130, 479, 480, 481, 482, 332, 333, 334, 24, 335, 63, 336, 59, 337, 60, 338, 339, 340, 341, 342, 343, 58, 344, 345, 346, 347, 348, 349, 350, 351, 352, 353, 354, 355, 356, 357, 358, 359, 360, 185, 186, 187, 361, 362, 363, 364, 40, 365, 366, 367, 368, 483, 484, 485, 486, 462, 487, 455, 456, 457, 458, 459, 460, 461, 420, 421, 422, 423, 62, 424, 425, 426, 427, 61, 428, 433, 434, 435, 436, 625, 626, 627, 628, 525, 417, 418, 419, 524, 430, 431, 432, 1204, 1205, 1206, 1207, 1208, 1209, 1210, 1211, 1236, 1237, 1238, 1239, 1240, 1241, 1242, 1243, 1244, 1254, 1255, 1256, 1257, 1258, 1259, 1260, 1261, 1262, 1263, 1264, 1265, 1266, 1267] (by decide +kernel) (by decide +kernel)
set_option maxRecDepth 20000 in
theorem gL_law_X11_justNot : GoodIn wsL_law (wsV RL 87 RX11 yX11_justNot wsX11_justNot) := goodIn_app (goodIn_of _ (by decide +kernel)) ggL_law_X11_justNot
set_option maxRecDepth 20000 in
theorem ggL_law_X12_justNot : GoodIn wsL_law wsX12_justNot := goodIn_r _ [632, 82, 383, 384, 256, 257, 258, 5, 259, 385, 386, 387, 388, 389, 390, 391, 392, 393, 215, 216, 217, 394, 395, 396, 492, 493, 494, 495, 467, 468, 469, 470, 441, 442, 443, 444, 92, 445, 242, 397, 398, 399, 400, 401, 402, 403, 404, 405, 279, 280, 281, 282, 1212, 1213, 1214, 1215, 1216, 1217, 1218, 1219, 1220, 1221, 1222, 1223, 1224, 1225, 1226, 1227, 1228, 1229, 1230, 1231, 1232, 1233, 1234, 1235] (by decide +kernel) (by decide +kernel)
set_option maxRecDepth 20000 in
theorem gL_law_X12_justNot : GoodIn wsL_law (wsV RL 90 RX12 yX12_justNot wsX12_justNot) := goodIn_app (goodIn_of _ (by decide +kernel)) ggL_law_X12_justNot
set_option maxRecDepth 20000 in
theorem ggL_law_X11_waste : GoodIn wsL_law wsX11_waste := goodIn_r _ [636, 25, 450, 451, 452, 2, 453, 99, 16, 328, 329, 330, 15, 331, 129, 130, 574, 339, 340, 24, 341, 342, 63, 343, 58, 605, 606, 607, 608, 352, 425, 1204, 1205, 1206, 1207, 1208, 1209, 1210, 1211, 1236, 1237, 1238, 1239, 1240, 1241, 1242, 1243, 1244, 1254, 1255, 1256, 1257, 1258, 1259, 1260, 1261, 1262, 1263, 1264, 1265, 1266, 1267] (by decide +kernel) (by decide +kernel)
set_option maxRecDepth 20000 in
theorem gL_law_X11_waste : GoodIn wsL_law (wsV RL 91 RX11 yX11_waste wsX11_waste) := goodIn_app (goodIn_of _ (by decide +kernel)) ggL_law_X11_waste
set_option maxRecDepth 20000 in
theorem ggL_law_X12_waste : GoodIn wsL_law wsX12_waste := goodIn_r _ [640, 256, 257, 258, 5, 259, 82, 385, 386, 387, 388, 389, 390, 391, 392, 393, 215, 216, 217, 394, 395, 396, 617, 618, 619, 620, 1212, 1213, 1214, 1215, 1216, 1217, 1218, 1219, 1220, 1221, 1222, 1223, 1224, 1225, 1226, 1227, 1228, 1229, 1230, 1231, 1232, 1233, 1234, 1235] (by decide +kernel) (by decide +kernel)
set_option maxRecDepth 20000 in
theorem gL_law_X12_waste : GoodIn wsL_law (wsV RL 94 RX12 yX12_waste wsX12_waste) := goodIn_app (goodIn_of _ (by decide +kernel)) ggL_law_X12_waste
set_option maxRecDepth 20000 in
theorem ggL_law_X11_gain : GoodIn wsL_law wsX11_gain := goodIn_r _ [644, 99, 16, 325, 25, 328, 329, 330, 15, 331, 129, 130, 250, 185, 186, 187, 287, 288, 2, 289, 332, 333, 334, 24, 335, 63, 336, 59, 337, 60, 338, 339, 340, 341, 342, 343, 58, 344, 345, 346, 347, 348, 349, 350, 351, 352, 353, 354, 355, 356, 357, 358, 359, 360, 361, 362, 363, 364, 40, 365, 366, 367, 368, 645, 646, 647, 648, 424, 649, 650, 651, 652, 653, 654, 655, 656, 39, 525, 417, 418, 419, 420, 421, 422, 423, 62, 425, 426, 427, 61, 428, 524, 430, 431, 432, 433, 434, 435, 436, 657, 658, 659, 660, 369, 370, 371, 372, 373, 374, 375, 376, 377, 1204, 1205, 1206, 1207, 1208, 1209, 1210, 1211, 1236, 1237, 1238, 1239, 1240, 1241, 1242, 1243, 1244, 1254, 1255, 1256, 1257, 1258, 1259, 1260, 1261, 1262, 1263, 1264, 1265, 1266, 1267] (by decide +kernel) (by decide +kernel)
set_option maxRecDepth 20000 in
theorem gL_law_X11_gain : GoodIn wsL_law (wsV RL 95 RX11 yX11_gain wsX11_gain) := goodIn_app (goodIn_of _ (by decide +kernel)) ggL_law_X11_gain
set_option maxRecDepth 20000 in
theorem ggL_law_X12_gain : GoodIn wsL_law wsX12_gain := goodIn_r _ [664, 382, 383, 384, 256, 257, 258, 5, 259, 82, 385, 386, 387, 388, 389, 390, 391, 392, 393, 215, 216, 217, 394, 395, 396, 260, 261, 262, 263, 665, 666, 667, 668, 242, 441, 442, 443, 444, 92, 445, 397, 398, 399, 400, 401, 402, 403, 404, 405, 406, 407, 408, 409, 410, 411, 1212, 1213, 1214, 1215, 1216, 1217, 1218, 1219, 1220, 1221, 1222, 1223, 1224, 1225, 1226, 1227, 1228, 1229, 1230, 1231, 1232, 1233, 1234, 1235] (by decide +kernel) (by decide +kernel)
set_option maxRecDepth 20000 in
theorem gL_law_X12_gain : GoodIn wsL_law (wsV RL 98 RX12 yX12_gain wsX12_gain) := goodIn_app (goodIn_of _ (by decide +kernel)) ggL_law_X12_gain
set_option maxRecDepth 20000 in
theorem ggL_law_X11_inOne : GoodIn wsL_law wsX11_inOne := goodIn_r _ [672, 99, 16, 270, 181, 182, 15, 183, 130, 673, 674, 675, 676, 42, 365, 366, 367, 368, 43, 129, 45, 1204, 1205, 1206, 1207, 1208, 1209, 1210, 1211, 1236, 1237, 1238, 1239, 1240, 1241, 1242, 1243, 1244] (by decide +kernel) (by decide +kernel)
set_option maxRecDepth 20000 in
theorem gL_law_X11_inOne : GoodIn wsL_law (wsV RL 99 RX11 yX11_inOne wsX11_inOne) := goodIn_app (goodIn_of _ (by decide +kernel)) ggL_law_X11_inOne
set_option maxRecDepth 20000 in
theorem ggL_law_X12_inOne : GoodIn wsL_law wsX12_inOne := goodIn_r _ [680, 82, 256, 257, 258, 5, 259, 279, 280, 281, 282, 215, 216, 217, 681, 682, 683, 1212, 1213, 1214, 1215, 1216, 1217, 1218, 1219, 1220, 1221, 1222, 1223, 1224, 1225, 1226, 1227, 1228, 1229, 1230, 1231, 1232, 1233, 1234, 1235] (by decide +kernel) (by decide +kernel)
set_option maxRecDepth 20000 in
theorem gL_law_X12_inOne : GoodIn wsL_law (wsV RL 102 RX12 yX12_inOne wsX12_inOne) := goodIn_app (goodIn_of _ (by decide +kernel)) ggL_law_X12_inOne
set_option maxRecDepth 20000 in
theorem ggL_law_X11_bars : GoodIn wsL_law wsX11_bars := goodIn_r _ [687, 99, 16, 25, 688, 689, 690, 691, 15, 692, 130, 475, 476, 477, 478, 129, 479, 480, 481, 2, 482, 328, 329, 330, 331, 332, 333, 334, 24, 335, 63, 336, 59, 337, 60, 338, 339, 340, 341, 342, 343, 58, 344, 345, 346, 347, 348, 349, 350, 351, 352, 353, 354, 355, 356, 357, 358, 359, 360, 185, 186, 187, 361, 362, 363, 364, 40, 365, 366, 367, 368, 483, 484, 485, 486, 462, 487, 455, 456, 457, 458, 459, 460, 461, 420, 421, 422, 423, 62, 424, 425, 426, 427, 61, 428, 433, 434, 435, 436, 1204, 1205, 1206, 1207, 1208, 1209, 1210, 1211, 1254, 1255, 1256, 1257, 1258, 1259, 1260, 1261, 1262, 1263, 1264, 1265, 1266, 1267, 1236, 1237, 1238, 1239, 1240, 1241, 1242, 1243, 1244] (by decide +kernel) (by decide +kernel)
set_option maxRecDepth 20000 in
theorem gL_law_X11_bars : GoodIn wsL_law (wsV RL 103 RX11 yX11_bars wsX11_bars) := goodIn_app (goodIn_of _ (by decide +kernel)) ggL_law_X11_bars
set_option maxRecDepth 20000 in
theorem ggL_law_X12_bars : GoodIn wsL_law wsX12_bars := goodIn_r _ [696, 82, 389, 256, 257, 258, 5, 259, 215, 216, 217, 530, 531, 532, 533, 390, 391, 392, 393, 492, 493, 494, 495, 385, 386, 387, 388, 394, 395, 396, 467, 468, 469, 470, 383, 384, 441, 442, 443, 444, 92, 445, 242, 397, 398, 399, 400, 401, 402, 403, 404, 405, 279, 280, 281, 282, 1212, 1213, 1214, 1215, 1216, 1217, 1218, 1219, 1220, 1221, 1222, 1223, 1224, 1225, 1226, 1227, 1228, 1229, 1230, 1231, 1232, 1233, 1234, 1235] (by decide +kernel) (by decide +kernel)
set_option maxRecDepth 20000 in
theorem gL_law_X12_bars : GoodIn wsL_law (wsV RL 106 RX12 yX12_bars wsX12_bars) := goodIn_app (goodIn_of _ (by decide +kernel)) ggL_law_X12_bars
set_option maxRecDepth 20000 in
theorem ggL_law_X11_leastBar : GoodIn wsL_law wsX11_leastBar := goodIn_r _ [700, 99, 16, 25, 688, 287, 288, 2, 289, 689, 690, 691, 15, 692, 130, 701, 702, 703, 704, 475, 476, 477, 478, 129, 479, 480, 481, 482, 328, 329, 330, 331, 332, 333, 334, 24, 335, 63, 336, 59, 337, 60, 338, 339, 340, 341, 342, 343, 58, 344, 345, 346, 347, 348, 349, 350, 351, 352, 353, 354, 355, 356, 357, 358, 359, 360, 185, 186, 187, 361, 362, 363, 364, 40, 365, 366, 367, 368, 483, 484, 485, 486, 462, 487, 455, 456, 457, 458, 459, 460, 461, 420, 421, 422, 423, 62, 424, 425, 426, 427, 61, 428, 433, 434, 435, 436, 605, 606, 607, 608, 705, 599, 600, 601, 602, 603, 604, 1204, 1205, 1206, 1207, 1208, 1209, 1210, 1211, 1254, 1255, 1256, 1257, 1258, 1259, 1260, 1261, 1262, 1263, 1264, 1265, 1266, 1267, 1236, 1237, 1238, 1239, 1240, 1241, 1242, 1243, 1244] (by decide +kernel) (by decide +kernel)
set_option maxRecDepth 20000 in
theorem gL_law_X11_leastBar : GoodIn wsL_law (wsV RL 107 RX11 yX11_leastBar wsX11_leastBar) := goodIn_app (goodIn_of _ (by decide +kernel)) ggL_law_X11_leastBar
set_option maxRecDepth 20000 in
theorem ggL_law_X12_leastBar : GoodIn wsL_law wsX12_leastBar := goodIn_r _ [709, 82, 389, 256, 257, 258, 5, 259, 215, 216, 217, 710, 711, 712, 713, 390, 391, 392, 393, 492, 493, 494, 495, 385, 386, 387, 388, 394, 395, 396, 467, 468, 469, 470, 383, 384, 441, 442, 443, 444, 92, 445, 242, 397, 398, 399, 400, 401, 402, 403, 404, 405, 279, 280, 281, 282, 617, 618, 619, 620, 714, 715, 716, 1212, 1213, 1214, 1215, 1216, 1217, 1218, 1219, 1220, 1221, 1222, 1223, 1224, 1225, 1226, 1227, 1228, 1229, 1230, 1231, 1232, 1233, 1234, 1235] (by decide +kernel) (by decide +kernel)
set_option maxRecDepth 20000 in
theorem gL_law_X12_leastBar : GoodIn wsL_law (wsV RL 110 RX12 yX12_leastBar wsX12_leastBar) := goodIn_app (goodIn_of _ (by decide +kernel)) ggL_law_X12_leastBar
set_option maxRecDepth 20000 in
theorem ggL_law_X11_makes : GoodIn wsL_law wsX11_makes := goodIn_r _ [720, 99, 16, 29, 721, 250, 185, 186, 15, 187, 129, 722, 723, 724, 2, 725, 31, 100, 101, 102, 103, 104, 105, 33, 106, 107, 77, 108, 109, 110, 111, 112, 113, 114, 115, 726, 727, 728, 28, 729, 730, 71, 731, 732, 68, 733, 734, 735, 736, 737, 69, 70, 738, 739, 1204, 1205, 1206, 1207, 1208, 1209, 1210, 1211, 1268, 1269, 1270, 1271, 1236, 1237, 1238, 1239, 1240, 1241, 1242, 1243, 1244, 1272, 1273, 1274, 1275] (by decide +kernel) (by decide +kernel)
set_option maxRecDepth 20000 in
theorem gL_law_X11_makes : GoodIn wsL_law (wsV RL 111 RX11 yX11_makes wsX11_makes) := goodIn_app (goodIn_of _ (by decide +kernel)) ggL_law_X11_makes
set_option maxRecDepth 20000 in
theorem ggL_law_X12_makes : GoodIn wsL_law wsX12_makes := goodIn_r _ [743, 256, 257, 258, 5, 259, 82, 211, 212, 213, 214, 215, 216, 217, 260, 261, 262, 263, 744, 745, 746, 747, 87, 88, 748, 207, 208, 209, 210, 85, 86, 749, 750, 751, 752, 753, 754, 755, 756, 1212, 1213, 1214, 1215, 1216, 1217, 1218, 1219, 1220, 1221, 1222, 1223, 1224, 1225, 1226, 1227, 1228, 1229, 1230, 1231, 1232, 1233, 1234, 1235] (by decide +kernel) (by decide +kernel)
set_option maxRecDepth 20000 in
theorem gL_law_X12_makes : GoodIn wsL_law (wsV RL 114 RX12 yX12_makes wsX12_makes) := goodIn_app (goodIn_of _ (by decide +kernel)) ggL_law_X12_makes
set_option maxRecDepth 20000 in
theorem ggL_law_X11_loses : GoodIn wsL_law wsX11_loses := goodIn_r _ [760, 29, 722, 723, 724, 2, 725, 99, 31, 100, 101, 102, 103, 104, 105, 33, 106, 107, 77, 108, 109, 110, 111, 112, 113, 114, 115, 726, 727, 728, 28, 729, 730, 71, 731, 732, 68, 733, 734, 735, 736, 737, 69, 70, 738, 739, 761, 762, 763, 764, 765, 766, 767, 768, 769, 770, 771, 1204, 1205, 1206, 1207, 1208, 1209, 1210, 1211, 1272, 1273, 1274, 1275, 1268, 1269, 1270, 1271, 1236, 1237, 1238, 1239, 1240, 1241, 1242, 1243, 1244] (by decide +kernel) (by decide +kernel)
set_option maxRecDepth 20000 in
theorem gL_law_X11_loses : GoodIn wsL_law (wsV RL 115 RX11 yX11_loses wsX11_loses) := goodIn_app (goodIn_of _ (by decide +kernel)) ggL_law_X11_loses
set_option maxRecDepth 20000 in
theorem ggL_law_X12_loses : GoodIn wsL_law wsX12_loses := goodIn_r _ [775, 82, 88, 256, 257, 258, 5, 259, 744, 745, 746, 747, 87, 748, 207, 208, 209, 210, 85, 86, 211, 212, 213, 214, 215, 216, 217, 749, 750, 751, 752, 753, 754, 755, 756, 1212, 1213, 1214, 1215, 1216, 1217, 1218, 1219, 1220, 1221, 1222, 1223, 1224, 1225, 1226, 1227, 1228, 1229, 1230, 1231, 1232, 1233, 1234, 1235] (by decide +kernel) (by decide +kernel)
set_option maxRecDepth 20000 in
theorem gL_law_X12_loses : GoodIn wsL_law (wsV RL 118 RX12 yX12_loses wsX12_loses) := goodIn_app (goodIn_of _ (by decide +kernel)) ggL_law_X12_loses
set_option maxRecDepth 20000 in
theorem ggL_law_X11_broken : GoodIn wsL_law wsX11_broken := goodIn_r _ [779, 29, 722, 723, 724, 2, 725, 99, 31, 100, 101, 102, 103, 104, 105, 33, 106, 107, 77, 108, 109, 110, 111, 112, 113, 114, 115, 726, 727, 728, 28, 729, 730, 71, 731, 732, 68, 733, 734, 735, 736, 737, 69, 70, 738, 739, 780, 781, 782, 783, 771, 784, 518, 519, 15, 520, 129, 40, 521, 522, 367, 523, 785, 786, 787, 788, 765, 766, 767, 768, 769, 770, 1204, 1205, 1206, 1207, 1208, 1209, 1210, 1211, 1272, 1273, 1274, 1275, 1268, 1269, 1270, 1271, 1236, 1237, 1238, 1239, 1240, 1241, 1242, 1243, 1244] (by decide +kernel) (by decide +kernel)
set_option maxRecDepth 20000 in
theorem gL_law_X11_broken : GoodIn wsL_law (wsV RL 119 RX11 yX11_broken wsX11_broken) := goodIn_app (goodIn_of _ (by decide +kernel)) ggL_law_X11_broken
set_option maxRecDepth 20000 in
theorem ggL_law_X12_broken : GoodIn wsL_law wsX12_broken := goodIn_r _ [792, 82, 256, 257, 258, 5, 259, 744, 745, 746, 747, 87, 88, 748, 207, 208, 209, 210, 85, 86, 211, 212, 213, 214, 215, 216, 217, 749, 750, 751, 752, 753, 754, 755, 756, 1212, 1213, 1214, 1215, 1216, 1217, 1218, 1219, 1220, 1221, 1222, 1223, 1224, 1225, 1226, 1227, 1228, 1229, 1230, 1231, 1232, 1233, 1234, 1235] (by decide +kernel) (by decide +kernel)
set_option maxRecDepth 20000 in
theorem gL_law_X12_broken : GoodIn wsL_law (wsV RL 122 RX12 yX12_broken wsX12_broken) := goodIn_app (goodIn_of _ (by decide +kernel)) ggL_law_X12_broken
set_option maxRecDepth 20000 in
theorem ggL_law_X11_edge : GoodIn wsL_law wsX11_edge := goodIn_r _ [796, 99, 16, 25, 269, 328, 329, 330, 15, 331, 129, 130, 270, 181, 182, 183, 250, 185, 186, 187, 332, 333, 334, 24, 335, 63, 336, 59, 337, 60, 338, 339, 340, 341, 342, 343, 58, 344, 345, 346, 347, 348, 349, 350, 351, 352, 353, 354, 355, 356, 357, 358, 359, 360, 361, 362, 363, 364, 40, 365, 366, 367, 368, 797, 798, 799, 800, 458, 459, 460, 461, 462, 420, 421, 422, 423, 62, 424, 425, 426, 427, 61, 428, 433, 434, 435, 436, 801, 1204, 1205, 1206, 1207, 1208, 1209, 1210, 1211, 1236, 1237, 1238, 1239, 1240, 1241, 1242, 1243, 1244, 1254, 1255, 1256, 1257, 1258, 1259, 1260, 1261, 1262, 1263, 1264, 1265, 1266, 1267] (by decide +kernel) (by decide +kernel)
set_option maxRecDepth 20000 in
theorem gL_law_X11_edge : GoodIn wsL_law (wsV RL 123 RX11 yX11_edge wsX11_edge) := goodIn_app (goodIn_of _ (by decide +kernel)) ggL_law_X11_edge
set_option maxRecDepth 20000 in
theorem ggL_law_X12_edge : GoodIn wsL_law wsX12_edge := goodIn_r _ [805, 82, 256, 257, 258, 5, 259, 385, 386, 387, 388, 389, 390, 391, 392, 393, 215, 216, 217, 394, 395, 396, 279, 280, 281, 282, 260, 261, 262, 263, 492, 493, 494, 495, 467, 468, 469, 470, 383, 384, 441, 442, 443, 444, 92, 445, 242, 397, 398, 399, 400, 401, 402, 403, 404, 405, 1212, 1213, 1214, 1215, 1216, 1217, 1218, 1219, 1220, 1221, 1222, 1223, 1224, 1225, 1226, 1227, 1228, 1229, 1230, 1231, 1232, 1233, 1234, 1235] (by decide +kernel) (by decide +kernel)
set_option maxRecDepth 20000 in
theorem gL_law_X12_edge : GoodIn wsL_law (wsV RL 126 RX12 yX12_edge wsX12_edge) := goodIn_app (goodIn_of _ (by decide +kernel)) ggL_law_X12_edge
set_option maxRecDepth 20000 in
theorem ggL_law_X11_run : GoodIn wsL_law wsX11_run := goodIn_r _ [809, 99, 16, 25, 810, 811, 812, 813, 328, 329, 330, 15, 331, 129, 130, 574, 339, 340, 24, 341, 342, 63, 343, 58, 814, 815, 816, 817, 39, 1204, 1205, 1206, 1207, 1208, 1209, 1210, 1211, 1254, 1255, 1256, 1257, 1258, 1259, 1260, 1261, 1262, 1263, 1264, 1265, 1266, 1267, 1236, 1237, 1238, 1239, 1240, 1241, 1242, 1243, 1244] (by decide +kernel) (by decide +kernel)
set_option maxRecDepth 20000 in
theorem gL_law_X11_run : GoodIn wsL_law (wsV RL 127 RX11 yX11_run wsX11_run) := goodIn_app (goodIn_of _ (by decide +kernel)) ggL_law_X11_run
set_option maxRecDepth 20000 in
theorem ggL_law_X12_run : GoodIn wsL_law wsX12_run := goodIn_r _ [821, 311, 822, 823, 824, 825, 82, 256, 257, 258, 5, 259, 385, 386, 387, 388, 389, 390, 391, 392, 393, 215, 216, 217, 394, 395, 396, 1212, 1213, 1214, 1215, 1216, 1217, 1218, 1219, 1220, 1221, 1222, 1223, 1224, 1225, 1226, 1227, 1228, 1229, 1230, 1231, 1232, 1233, 1234, 1235] (by decide +kernel) (by decide +kernel)
set_option maxRecDepth 20000 in
theorem gL_law_X12_run : GoodIn wsL_law (wsV RL 131 RX12 yX12_run wsX12_run) := goodIn_app (goodIn_of _ (by decide +kernel)) ggL_law_X12_run
set_option maxRecDepth 20000 in
theorem ggL_law_X11_rate : GoodIn wsL_law wsX11_rate := goodIn_r _ [829, 99, 16, 830, 1204, 1205, 1206, 1207, 1208, 1209, 1210, 1211, 1236, 1237, 1238, 1239, 1240, 1241, 1242, 1243, 1244] (by decide +kernel) (by decide +kernel)
set_option maxRecDepth 20000 in
theorem gL_law_X11_rate : GoodIn wsL_law (wsV RL 132 RX11 yX11_rate wsX11_rate) := goodIn_app (goodIn_of _ (by decide +kernel)) ggL_law_X11_rate
set_option maxRecDepth 20000 in
theorem ggL_law_X12_rate : GoodIn wsL_law wsX12_rate := goodIn_r _ [834, 242, 256, 257, 258, 5, 259, 82, 215, 216, 217, 295, 296, 297, 298, 1212, 1213, 1214, 1215, 1216, 1217, 1218, 1219, 1220, 1221, 1222, 1223, 1224, 1225, 1226, 1227, 1228, 1229, 1230, 1231, 1232, 1233, 1234, 1235] (by decide +kernel) (by decide +kernel)
set_option maxRecDepth 20000 in
theorem gL_law_X12_rate : GoodIn wsL_law (wsV RL 135 RX12 yX12_rate wsX12_rate) := goodIn_app (goodIn_of _ (by decide +kernel)) ggL_law_X12_rate
set_option maxRecDepth 20000 in
theorem ggL_law_X11_years : GoodIn wsL_law wsX11_years := goodIn_r _ [838, 99, 16, 325, 25, 328, 329, 330, 15, 331, 129, 130, 250, 185, 186, 187, 839, 840, 2, 841, 287, 288, 289, 332, 333, 334, 24, 335, 63, 336, 59, 337, 60, 338, 339, 340, 341, 342, 343, 58, 344, 345, 346, 347, 348, 349, 350, 351, 352, 353, 354, 355, 356, 357, 358, 359, 360, 361, 362, 363, 364, 40, 365, 366, 367, 368, 842, 843, 844, 845, 652, 61, 62, 428, 846, 847, 416, 417, 418, 419, 420, 421, 422, 423, 424, 425, 426, 427, 429, 430, 431, 432, 433, 434, 435, 436, 369, 370, 371, 372, 373, 374, 375, 376, 377, 848, 849, 850, 851, 1204, 1205, 1206, 1207, 1208, 1209, 1210, 1211, 1236, 1237, 1238, 1239, 1240, 1241, 1242, 1243, 1244, 1254, 1255, 1256, 1257, 1258, 1259, 1260, 1261, 1262, 1263, 1264, 1265, 1266, 1267] (by decide +kernel) (by decide +kernel)
set_option maxRecDepth 20000 in
theorem gL_law_X11_years : GoodIn wsL_law (wsV RL 136 RX11 yX11_years wsX11_years) := goodIn_app (goodIn_of _ (by decide +kernel)) ggL_law_X11_years
set_option maxRecDepth 20000 in
theorem ggL_law_X12_years : GoodIn wsL_law wsX12_years := goodIn_r _ [855, 856, 382, 383, 384, 256, 257, 258, 5, 259, 82, 385, 386, 387, 388, 389, 390, 391, 392, 393, 215, 216, 217, 394, 395, 396, 260, 261, 262, 263, 857, 858, 859, 860, 92, 445, 441, 442, 443, 444, 242, 397, 398, 399, 400, 401, 402, 403, 404, 405, 406, 407, 408, 409, 410, 411, 1212, 1213, 1214, 1215, 1216, 1217, 1218, 1219, 1220, 1221, 1222, 1223, 1224, 1225, 1226, 1227, 1228, 1229, 1230, 1231, 1232, 1233, 1234, 1235] (by decide +kernel) (by decide +kernel)
set_option maxRecDepth 20000 in
theorem gL_law_X12_years : GoodIn wsL_law (wsV RL 139 RX12 yX12_years wsX12_years) := goodIn_app (goodIn_of _ (by decide +kernel)) ggL_law_X12_years
set_option maxRecDepth 20000 in
theorem ggL_law_X11_ratherOver : GoodIn wsL_law wsX11_ratherOver := goodIn_r _ [864, 25, 450, 451, 452, 2, 453, 99, 16, 328, 329, 330, 15, 331, 129, 130, 839, 840, 841, 332, 333, 334, 24, 335, 63, 336, 59, 337, 60, 338, 339, 340, 341, 342, 343, 58, 344, 345, 346, 347, 348, 349, 350, 351, 352, 353, 354, 355, 356, 357, 358, 359, 360, 185, 186, 187, 361, 362, 363, 364, 40, 365, 366, 367, 368, 842, 843, 844, 845, 652, 61, 62, 428, 846, 847, 454, 455, 456, 457, 458, 459, 460, 461, 462, 420, 421, 422, 423, 424, 425, 426, 427, 433, 434, 435, 436, 848, 849, 850, 851, 1204, 1205, 1206, 1207, 1208, 1209, 1210, 1211, 1236, 1237, 1238, 1239, 1240, 1241, 1242, 1243, 1244, 1254, 1255, 1256, 1257, 1258, 1259, 1260, 1261, 1262, 1263, 1264, 1265, 1266, 1267] (by decide +kernel) (by decide +kernel)
set_option maxRecDepth 20000 in
theorem gL_law_X11_ratherOver : GoodIn wsL_law (wsV RL 140 RX11 yX11_ratherOver wsX11_ratherOver) := goodIn_app (goodIn_of _ (by decide +kernel)) ggL_law_X11_ratherOver
set_option maxRecDepth 20000 in
theorem ggL_law_X12_ratherOver : GoodIn wsL_law wsX12_ratherOver := goodIn_r _ [868, 856, 256, 257, 258, 5, 259, 82, 385, 386, 387, 388, 389, 390, 391, 392, 393, 215, 216, 217, 394, 395, 396, 857, 858, 859, 860, 92, 445, 467, 468, 469, 470, 383, 384, 441, 442, 443, 444, 242, 397, 398, 399, 400, 401, 402, 403, 404, 405, 279, 280, 281, 282, 1212, 1213, 1214, 1215, 1216, 1217, 1218, 1219, 1220, 1221, 1222, 1223, 1224, 1225, 1226, 1227, 1228, 1229, 1230, 1231, 1232, 1233, 1234, 1235] (by decide +kernel) (by decide +kernel)
set_option maxRecDepth 20000 in
theorem gL_law_X12_ratherOver : GoodIn wsL_law (wsV RL 143 RX12 yX12_ratherOver wsX12_ratherOver) := goodIn_app (goodIn_of _ (by decide +kernel)) ggL_law_X12_ratherOver
