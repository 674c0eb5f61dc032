set_option maxRecDepth 20000 in
theorem ggL_law_X4_flow : GoodIn wsL_law wsX4_flow := goodIn_r _ [397, 19, 15, 24, 201, 83, 2, 84, 398, 399, 400, 18, 401, 42, 205, 80, 81, 14, 82, 36, 163, 164, 165, 23, 166, 53, 52, 167, 168, 169, 170, 171, 172, 173, 174, 175, 176, 402, 403, 404, 405, 406, 407, 408, 409, 357, 93, 94, 95, 96, 97, 98, 99, 100, 101, 65, 66, 67, 68, 410, 411, 412, 413, 45, 89, 90, 91, 414, 415, 416, 417, 214, 336, 329, 330, 331, 337, 338, 339, 340, 217, 218, 219, 220, 418, 419, 359, 360, 361, 181, 182, 183, 184, 69, 70, 71, 72, 73, 74, 75, 76, 77, 40, 41, 78, 79, 85, 86, 87, 88, 43, 44, 92, 102, 103, 104, 105, 106, 107, 108, 109, 110, 111, 112, 113, 114, 115, 116, 117, 118, 119, 120, 121, 122, 123, 124, 125, 46, 47, 126, 127, 128, 129, 130, 131, 132, 133, 134, 135, 136, 137, 138, 139, 140, 736, 737, 738, 739, 740, 741, 742, 760, 761, 762, 763, 764, 765, 766, 767, 768, 769, 770, 771, 772, 773, 759, 774, 775] (by decide +kernel) (by decide +kernel)
set_option maxRecDepth 20000 in
theorem gL_law_X4_flow : GoodIn wsL_law (wsV RL 42 RX4 yX4_flow wsX4_flow) := goodIn_app (goodIn_of _ (by decide +kernel)) ggL_law_X4_flow
set_option maxRecDepth 20000 in
theorem ggL_law_X5_flow : GoodIn wsL_law wsX5_flow := goodIn_r _ [423, 153, 145, 225, 226, 5, 227, 189, 190, 191, 374, 375, 376, 377, 378, 379, 380, 381, 382, 383, 384, 385, 151, 156, 154, 155, 152, 228, 229, 230, 231, 370, 371, 372, 373, 236, 237, 238, 239, 386, 387, 388, 389, 149, 150, 390, 391, 392, 393, 192, 193, 194, 195, 196, 147, 424, 425, 426, 427, 743, 744, 745, 746, 747, 748, 749, 750, 751, 752, 753, 754, 755, 756, 757, 758] (by decide +kernel) (by decide +kernel)
set_option maxRecDepth 20000 in
theorem gL_law_X5_flow : GoodIn wsL_law (wsV RL 45 RX5 yX5_flow wsX5_flow) := goodIn_app (goodIn_of _ (by decide +kernel)) ggL_law_X5_flow
set_option maxRecDepth 20000 in
theorem ggL_law_X4_spread : GoodIn wsL_law wsX4_spread := goodIn_r _ [431, 19, 201, 83, 2, 84, 362, 363, 364, 18, 365, 41, 432, 433, 434, 435, 15, 436, 437, 408, 438, 24, 439, 440, 441, 442, 205, 80, 81, 14, 82, 36, 443, 444, 445, 446, 357, 93, 94, 95, 96, 97, 98, 99, 100, 101, 410, 411, 412, 413, 45, 89, 90, 91, 447, 448, 449, 450, 451, 452, 453, 454, 163, 164, 165, 23, 166, 53, 52, 167, 168, 169, 170, 171, 172, 173, 174, 175, 176, 358, 359, 360, 361, 181, 182, 183, 184, 65, 66, 67, 68, 69, 70, 71, 72, 73, 74, 75, 76, 77, 40, 42, 78, 79, 85, 86, 87, 88, 43, 44, 92, 102, 103, 104, 105, 106, 107, 108, 109, 110, 111, 112, 113, 114, 115, 116, 117, 118, 119, 120, 121, 122, 123, 124, 125, 46, 47, 126, 127, 128, 129, 130, 131, 132, 133, 134, 135, 136, 137, 138, 139, 140, 736, 737, 738, 739, 740, 741, 742, 760, 761, 762, 763, 764, 765, 766, 767, 768, 769, 770, 771, 772, 773, 759, 774, 775] (by decide +kernel) (by decide +kernel)
set_option maxRecDepth 20000 in
theorem gL_law_X4_spread : GoodIn wsL_law (wsV RL 46 RX4 yX4_spread wsX4_spread) := goodIn_app (goodIn_of _ (by decide +kernel)) ggL_law_X4_spread
set_option maxRecDepth 20000 in
theorem ggL_law_X5_spread : GoodIn wsL_law wsX5_spread := goodIn_r _ [458, 152, 145, 225, 226, 5, 227, 189, 190, 191, 374, 375, 376, 377, 378, 379, 380, 381, 382, 383, 384, 385, 151, 153, 156, 154, 155, 228, 229, 230, 231, 370, 371, 372, 373, 236, 237, 238, 239, 386, 387, 388, 389, 149, 150, 390, 391, 392, 393, 459, 460, 461, 462, 463, 464, 465, 466, 192, 193, 194, 195, 196, 147, 743, 744, 745, 746, 747, 748, 749, 750, 751, 752, 753, 754, 755, 756, 757, 758] (by decide +kernel) (by decide +kernel)
set_option maxRecDepth 20000 in
theorem gL_law_X5_spread : GoodIn wsL_law (wsV RL 49 RX5 yX5_spread wsX5_spread) := goodIn_app (goodIn_of _ (by decide +kernel)) ggL_law_X5_spread
set_option maxRecDepth 20000 in
theorem ggL_law_X4_type : GoodIn wsL_law wsX4_type := goodIn_r _ [470, 31, 471, 472, 473, 30, 474, 59, 58, 475, 476, 477, 478, 736, 737, 738, 739, 740, 741, 742, 776, 777, 778, 779, 780, 781, 782] (by decide +kernel) (by decide +kernel)
set_option maxRecDepth 20000 in
theorem gL_law_X4_type : GoodIn wsL_law (wsV RL 50 RX4 yX4_type wsX4_type) := goodIn_app (goodIn_of _ (by decide +kernel)) ggL_law_X4_type
set_option maxRecDepth 20000 in
theorem ggL_law_X5_type : GoodIn wsL_law wsX5_type := goodIn_r _ [482, 311, 148, 743, 744, 745, 746, 747, 748, 749, 750, 751, 752, 753, 754, 755, 756, 757, 758] (by decide +kernel) (by decide +kernel)
set_option maxRecDepth 20000 in
theorem gL_law_X5_type : GoodIn wsL_law (wsV RL 54 RX5 yX5_type wsX5_type) := goodIn_app (goodIn_of _ (by decide +kernel)) ggL_law_X5_type
set_option maxRecDepth 20000 in
theorem ggL_law_X4_clearText : GoodIn wsL_law wsX4_clearText := goodIn_r _ [486, 31, 475, 476, 477, 30, 478, 59, 487, 488, 489, 490, 736, 737, 738, 739, 740, 741, 742, 776, 777, 778, 779, 780, 781, 782] (by decide +kernel) (by decide +kernel)
set_option maxRecDepth 20000 in
theorem gL_law_X4_clearText : GoodIn wsL_law (wsV RL 55 RX4 yX4_clearText wsX4_clearText) := goodIn_app (goodIn_of _ (by decide +kernel)) ggL_law_X4_clearText
set_option maxRecDepth 20000 in
theorem ggL_law_X5_clearText : GoodIn wsL_law wsX5_clearText := goodIn_r _ [494, 311, 743, 744, 745, 746, 747, 748, 749, 750, 751, 752, 753, 754, 755, 756, 757, 758] (by decide +kernel) (by decide +kernel)
set_option maxRecDepth 20000 in
theorem gL_law_X5_clearText : GoodIn wsL_law (wsV RL 59 RX5 yX5_clearText wsX5_clearText) := goodIn_app (goodIn_of _ (by decide +kernel)) ggL_law_X5_clearText
set_option maxRecDepth 20000 in
theorem ggL_law_X4_undo : GoodIn wsL_law wsX4_undo := goodIn_r _ [498, 24, 15, 499, 500, 501, 23, 502, 53, 503, 504, 505, 506, 52, 507, 508, 509, 14, 510, 36, 167, 2, 168, 169, 170, 171, 172, 181, 182, 183, 184, 19, 65, 66, 67, 68, 69, 70, 71, 18, 72, 73, 74, 75, 76, 77, 40, 42, 41, 78, 79, 80, 81, 82, 83, 84, 85, 86, 87, 88, 43, 45, 44, 89, 90, 91, 92, 93, 94, 95, 96, 97, 98, 99, 100, 101, 102, 103, 104, 105, 106, 107, 108, 109, 110, 111, 112, 113, 114, 115, 116, 117, 118, 119, 120, 121, 122, 123, 124, 125, 46, 47, 126, 127, 128, 129, 130, 131, 132, 133, 134, 135, 136, 137, 138, 139, 140, 736, 737, 738, 739, 740, 741, 742, 774, 775, 759, 760, 761, 762, 763, 764, 765, 766, 767, 768, 769, 770, 771, 772, 773] (by decide +kernel) (by decide +kernel)
set_option maxRecDepth 20000 in
theorem gL_law_X4_undo : GoodIn wsL_law (wsV RL 60 RX4 yX4_undo wsX4_undo) := goodIn_app (goodIn_of _ (by decide +kernel)) ggL_law_X4_undo
set_option maxRecDepth 20000 in
theorem ggL_law_X5_undo : GoodIn wsL_law wsX5_undo := goodIn_r _ [514, 196, 145, 147, 743, 744, 745, 746, 747, 748, 749, 750, 751, 752, 753, 754, 755, 756, 757, 758] (by decide +kernel) (by decide +kernel)
set_option maxRecDepth 20000 in
theorem gL_law_X5_undo : GoodIn wsL_law (wsV RL 63 RX5 yX5_undo wsX5_undo) := goodIn_app (goodIn_of _ (by decide +kernel)) ggL_law_X5_undo
set_option maxRecDepth 20000 in
theorem ggL_law_X4_keep : GoodIn wsL_law wsX4_keep := goodIn_r _ [518, 15, 26, 27, 519, 174, 175, 14, 176, 36, 167, 2, 168, 169, 170, 171, 172, 520, 521, 522, 523, 214, 80, 81, 82, 83, 84, 736, 737, 738, 739, 740, 741, 742, 759] (by decide +kernel) (by decide +kernel)
set_option maxRecDepth 20000 in
theorem gL_law_X4_keep : GoodIn wsL_law (wsV RL 64 RX4 yX4_keep wsX4_keep) := goodIn_app (goodIn_of _ (by decide +kernel)) ggL_law_X4_keep
set_option maxRecDepth 20000 in
theorem ggL_law_X5_keep : GoodIn wsL_law wsX5_keep := goodIn_r _ [527, 146, 145, 528, 529, 530, 531, 5, 532, 228, 229, 230, 231, 743, 744, 745, 746, 747, 748, 749, 750, 751, 752, 753, 754, 755, 756, 757, 758] (by decide +kernel) (by decide +kernel)
set_option maxRecDepth 20000 in
theorem gL_law_X5_keep : GoodIn wsL_law (wsV RL 67 RX5 yX5_keep wsX5_keep) := goodIn_app (goodIn_of _ (by decide +kernel)) ggL_law_X5_keep
set_option maxRecDepth 20000 in
theorem ggL_law_X4_restore : GoodIn wsL_law wsX4_restore := goodIn_r _ [536, 27, 24, 15, 26, 163, 164, 165, 23, 166, 53, 52, 167, 2, 168, 169, 170, 171, 172, 173, 174, 175, 14, 176, 36, 537, 508, 509, 510, 181, 182, 183, 184, 19, 65, 66, 67, 68, 69, 70, 71, 18, 72, 73, 74, 75, 76, 77, 40, 42, 41, 78, 79, 80, 81, 82, 83, 84, 85, 86, 87, 88, 43, 45, 44, 89, 90, 91, 92, 93, 94, 95, 96, 97, 98, 99, 100, 101, 102, 103, 104, 105, 106, 107, 108, 109, 110, 111, 112, 113, 114, 115, 116, 117, 118, 119, 120, 121, 122, 123, 124, 125, 46, 47, 126, 127, 128, 129, 130, 131, 132, 133, 134, 135, 136, 137, 138, 139, 140, 520, 521, 522, 523, 214, 736, 737, 738, 739, 740, 741, 742, 774, 775, 759, 760, 761, 762, 763, 764, 765, 766, 767, 768, 769, 770, 771, 772, 773] (by decide +kernel) (by decide +kernel)
set_option maxRecDepth 20000 in
theorem gL_law_X4_restore : GoodIn wsL_law (wsV RL 68 RX4 yX4_restore wsX4_restore) := goodIn_app (goodIn_of _ (by decide +kernel)) ggL_law_X4_restore
set_option maxRecDepth 20000 in
theorem ggL_law_X5_restore : GoodIn wsL_law wsX5_restore := goodIn_r _ [541, 528, 145, 146, 192, 193, 194, 5, 195, 196, 147, 529, 530, 531, 532, 228, 229, 230, 231, 743, 744, 745, 746, 747, 748, 749, 750, 751, 752, 753, 754, 755, 756, 757, 758] (by decide +kernel) (by decide +kernel)
set_option maxRecDepth 20000 in
theorem gL_law_X5_restore : GoodIn wsL_law (wsV RL 71 RX5 yX5_restore wsX5_restore) := goodIn_app (goodIn_of _ (by decide +kernel)) ggL_law_X5_restore
