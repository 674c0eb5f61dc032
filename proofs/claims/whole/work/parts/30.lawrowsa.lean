set_option maxRecDepth 20000 in
theorem ggL_law_X4_init : GoodIn wsL_law wsX4_init := goodIn_r _ [8, 9, 10, 11, 12, 13, 14, 15, 16, 17, 18, 19, 20, 21, 22, 23, 24, 25, 26, 27, 28, 29, 30, 31, 32, 33, 34, 35, 36, 37, 38, 39, 40, 41, 42, 43, 44, 45, 46, 47, 48, 49, 50, 51, 52, 53, 54, 55, 56, 57, 58, 59, 60, 61, 62, 63, 64, 65, 66, 67, 68, 69, 70, 71, 72, 73, 74, 75, 76, 77, 78, 79, 80, 81, 82, 83, 2, 84, 85, 86, 87, 88, 89, 90, 91, 92, 93, 94, 95, 96, 97, 98, 99, 100, 101, 102, 103, 104, 105, 106, 107, 108, 109, 110, 111, 112, 113, 114, 115, 116, 117, 118, 119, 120, 121, 122, 123, 124, 125, 126, 127, 128, 129, 130, 131, 132, 133, 134, 135, 136, 137, 138, 139, 140, 759, 736, 737, 738, 739, 740, 741, 742, 760, 761, 762, 763, 764, 765, 766, 767, 768, 769, 770, 771, 772, 773, 774, 775, 776, 777, 778, 779, 780, 781, 782] (by decide +kernel) (by decide +kernel)
set_option maxRecDepth 20000 in
theorem gL_law_X4_init : GoodIn wsL_law (wsX4_init) := ggL_law_X4_init
set_option maxRecDepth 20000 in
theorem ggL_law_X5_init : GoodIn wsL_law wsX5_init := goodIn_r _ [143, 144, 10, 11, 25, 145, 146, 147, 148, 149, 150, 151, 152, 153, 154, 155, 156, 743, 744, 745, 746, 747, 748, 749, 750, 751, 752, 753, 754, 755, 756, 757, 758] (by decide +kernel) (by decide +kernel)
set_option maxRecDepth 20000 in
theorem gL_law_X5_init : GoodIn wsL_law (wsX5_init) := ggL_law_X5_init
set_option maxRecDepth 20000 in
theorem ggL_law_X4_set : GoodIn wsL_law wsX4_set := goodIn_r _ [160, 161, 162, 15, 24, 65, 66, 67, 14, 68, 36, 163, 164, 165, 23, 166, 53, 52, 167, 2, 168, 169, 170, 171, 172, 173, 174, 175, 176, 177, 178, 179, 180, 181, 182, 183, 184, 19, 69, 70, 71, 18, 72, 73, 74, 75, 76, 77, 40, 42, 41, 78, 79, 80, 81, 82, 83, 84, 85, 86, 87, 88, 43, 45, 44, 89, 90, 91, 92, 93, 94, 95, 96, 97, 98, 99, 100, 101, 102, 103, 104, 105, 106, 107, 108, 109, 110, 111, 112, 113, 114, 115, 116, 117, 118, 119, 120, 121, 122, 123, 124, 125, 46, 47, 126, 127, 128, 129, 130, 131, 132, 133, 134, 135, 136, 137, 138, 139, 140, 736, 737, 738, 739, 740, 741, 742, 759, 774, 775, 760, 761, 762, 763, 764, 765, 766, 767, 768, 769, 770, 771, 772, 773] (by decide +kernel) (by decide +kernel)
set_option maxRecDepth 20000 in
theorem gL_law_X4_set : GoodIn wsL_law (wsV RL 13 RX4 yX4_set wsX4_set) := goodIn_app (goodIn_of _ (by decide +kernel)) ggL_law_X4_set
set_option maxRecDepth 20000 in
theorem ggL_law_X5_set : GoodIn wsL_law wsX5_set := goodIn_r _ [188, 145, 189, 190, 5, 191, 192, 193, 194, 195, 196, 147, 743, 744, 745, 746, 747, 748, 749, 750, 751, 752, 753, 754, 755, 756, 757, 758] (by decide +kernel) (by decide +kernel)
set_option maxRecDepth 20000 in
theorem gL_law_X5_set : GoodIn wsL_law (wsV RL 17 RX5 yX5_set wsX5_set) := goodIn_app (goodIn_of _ (by decide +kernel)) ggL_law_X5_set
set_option maxRecDepth 20000 in
theorem ggL_law_X4_paragraph : GoodIn wsL_law wsX4_paragraph := goodIn_r _ [200, 15, 24, 201, 83, 2, 84, 202, 203, 204, 205, 80, 81, 14, 82, 36, 163, 164, 165, 23, 166, 53, 52, 167, 168, 169, 170, 171, 172, 173, 174, 175, 176, 206, 207, 208, 209, 210, 211, 212, 213, 214, 99, 100, 101, 215, 216, 217, 218, 219, 220, 181, 182, 183, 184, 19, 65, 66, 67, 68, 69, 70, 71, 18, 72, 73, 74, 75, 76, 77, 40, 42, 41, 78, 79, 85, 86, 87, 88, 43, 45, 44, 89, 90, 91, 92, 93, 94, 95, 96, 97, 98, 102, 103, 104, 105, 106, 107, 108, 109, 110, 111, 112, 113, 114, 115, 116, 117, 118, 119, 120, 121, 122, 123, 124, 125, 46, 47, 126, 127, 128, 129, 130, 131, 132, 133, 134, 135, 136, 137, 138, 139, 140, 736, 737, 738, 739, 740, 741, 742, 759, 774, 775, 760, 761, 762, 763, 764, 765, 766, 767, 768, 769, 770, 771, 772, 773] (by decide +kernel) (by decide +kernel)
set_option maxRecDepth 20000 in
theorem gL_law_X4_paragraph : GoodIn wsL_law (wsV RL 18 RX4 yX4_paragraph wsX4_paragraph) := goodIn_app (goodIn_of _ (by decide +kernel)) ggL_law_X4_paragraph
set_option maxRecDepth 20000 in
theorem ggL_law_X5_paragraph : GoodIn wsL_law wsX5_paragraph := goodIn_r _ [224, 225, 226, 5, 227, 189, 190, 191, 228, 229, 230, 231, 145, 192, 193, 194, 195, 196, 147, 232, 233, 234, 235, 236, 237, 238, 239, 743, 744, 745, 746, 747, 748, 749, 750, 751, 752, 753, 754, 755, 756, 757, 758] (by decide +kernel) (by decide +kernel)
set_option maxRecDepth 20000 in
theorem gL_law_X5_paragraph : GoodIn wsL_law (wsV RL 22 RX5 yX5_paragraph wsX5_paragraph) := goodIn_app (goodIn_of _ (by decide +kernel)) ggL_law_X5_paragraph
set_option maxRecDepth 20000 in
theorem ggL_law_X4_put : GoodIn wsL_law wsX4_put := goodIn_r _ [243, 15, 24, 201, 83, 2, 84, 205, 80, 81, 14, 82, 36, 163, 164, 165, 23, 166, 53, 52, 167, 168, 169, 170, 171, 172, 173, 174, 175, 176, 244, 245, 246, 247, 210, 211, 212, 213, 214, 99, 100, 101, 248, 249, 217, 218, 219, 220, 181, 182, 183, 184, 19, 65, 66, 67, 68, 69, 70, 71, 18, 72, 73, 74, 75, 76, 77, 40, 42, 41, 78, 79, 85, 86, 87, 88, 43, 45, 44, 89, 90, 91, 92, 93, 94, 95, 96, 97, 98, 102, 103, 104, 105, 106, 107, 108, 109, 110, 111, 112, 113, 114, 115, 116, 117, 118, 119, 120, 121, 122, 123, 124, 125, 46, 47, 126, 127, 128, 129, 130, 131, 132, 133, 134, 135, 136, 137, 138, 139, 140, 736, 737, 738, 739, 740, 741, 742, 759, 774, 775, 760, 761, 762, 763, 764, 765, 766, 767, 768, 769, 770, 771, 772, 773] (by decide +kernel) (by decide +kernel)
set_option maxRecDepth 20000 in
theorem gL_law_X4_put : GoodIn wsL_law (wsV RL 23 RX4 yX4_put wsX4_put) := goodIn_app (goodIn_of _ (by decide +kernel)) ggL_law_X4_put
set_option maxRecDepth 20000 in
theorem ggL_law_X5_put : GoodIn wsL_law wsX5_put := goodIn_r _ [253, 225, 226, 5, 227, 189, 190, 191, 228, 229, 230, 231, 145, 192, 193, 194, 195, 196, 147, 232, 233, 234, 235, 236, 237, 238, 239, 743, 744, 745, 746, 747, 748, 749, 750, 751, 752, 753, 754, 755, 756, 757, 758] (by decide +kernel) (by decide +kernel)
set_option maxRecDepth 20000 in
theorem gL_law_X5_put : GoodIn wsL_law (wsV RL 27 RX5 yX5_put wsX5_put) := goodIn_app (goodIn_of _ (by decide +kernel)) ggL_law_X5_put
set_option maxRecDepth 20000 in
theorem ggL_law_X4_putAll : GoodIn wsL_law wsX4_putAll := goodIn_r _ [257, 31, 15, 24, 201, 83, 2, 84, 258, 259, 260, 30, 261, 61, 62, 63, 59, 262, 263, 264, 265, 266, 267, 268, 269, 58, 270, 271, 272, 273, 274, 275, 276, 277, 64, 60, 278, 279, 280, 281, 282, 283, 284, 285, 215, 216, 203, 204, 286, 287, 288, 289, 248, 249, 290, 291, 292, 293, 205, 80, 81, 14, 82, 36, 294, 295, 296, 297, 163, 164, 165, 23, 166, 53, 52, 167, 168, 169, 170, 171, 172, 173, 174, 175, 176, 298, 299, 300, 301, 302, 303, 304, 305, 214, 99, 100, 101, 217, 218, 219, 220, 181, 182, 183, 184, 19, 65, 66, 67, 68, 69, 70, 71, 18, 72, 73, 74, 75, 76, 77, 40, 42, 41, 78, 79, 85, 86, 87, 88, 43, 45, 44, 89, 90, 91, 92, 93, 94, 95, 96, 97, 98, 102, 103, 104, 105, 106, 107, 108, 109, 110, 111, 112, 113, 114, 115, 116, 117, 118, 119, 120, 121, 122, 123, 124, 125, 46, 47, 126, 127, 128, 129, 130, 131, 132, 133, 134, 135, 136, 137, 138, 139, 140, 736, 737, 738, 739, 740, 741, 742, 776, 777, 778, 779, 780, 781, 782, 759, 774, 775, 760, 761, 762, 763, 764, 765, 766, 767, 768, 769, 770, 771, 772, 773] (by decide +kernel) (by decide +kernel)
set_option maxRecDepth 20000 in
theorem gL_law_X4_putAll : GoodIn wsL_law (wsV RL 28 RX4 yX4_putAll wsX4_putAll) := goodIn_app (goodIn_of _ (by decide +kernel)) ggL_law_X4_putAll
set_option maxRecDepth 20000 in
theorem ggL_law_X5_putAll : GoodIn wsL_law wsX5_putAll := goodIn_r _ [309, 310, 311, 148, 225, 226, 5, 227, 189, 190, 191, 312, 313, 314, 315, 316, 317, 318, 319, 320, 321, 322, 323, 232, 233, 234, 235, 145, 228, 229, 230, 231, 236, 237, 238, 239, 192, 193, 194, 195, 196, 147, 743, 744, 745, 746, 747, 748, 749, 750, 751, 752, 753, 754, 755, 756, 757, 758] (by decide +kernel) (by decide +kernel)
set_option maxRecDepth 20000 in
theorem gL_law_X5_putAll : GoodIn wsL_law (wsV RL 32 RX5 yX5_putAll wsX5_putAll) := goodIn_app (goodIn_of _ (by decide +kernel)) ggL_law_X5_putAll
set_option maxRecDepth 20000 in
theorem ggL_law_X4_remove : GoodIn wsL_law wsX4_remove := goodIn_r _ [327, 15, 24, 328, 329, 330, 14, 331, 214, 80, 81, 82, 36, 83, 2, 84, 163, 164, 165, 23, 166, 53, 52, 167, 168, 169, 170, 171, 172, 173, 174, 175, 176, 332, 333, 334, 335, 336, 99, 100, 101, 337, 338, 339, 340, 217, 218, 219, 220, 181, 182, 183, 184, 19, 65, 66, 67, 68, 69, 70, 71, 18, 72, 73, 74, 75, 76, 77, 40, 42, 41, 78, 79, 85, 86, 87, 88, 43, 45, 44, 89, 90, 91, 92, 93, 94, 95, 96, 97, 98, 102, 103, 104, 105, 106, 107, 108, 109, 110, 111, 112, 113, 114, 115, 116, 117, 118, 119, 120, 121, 122, 123, 124, 125, 46, 47, 126, 127, 128, 129, 130, 131, 132, 133, 134, 135, 136, 137, 138, 139, 140, 205, 736, 737, 738, 739, 740, 741, 742, 759, 774, 775, 760, 761, 762, 763, 764, 765, 766, 767, 768, 769, 770, 771, 772, 773] (by decide +kernel) (by decide +kernel)
set_option maxRecDepth 20000 in
theorem gL_law_X4_remove : GoodIn wsL_law (wsV RL 33 RX4 yX4_remove wsX4_remove) := goodIn_app (goodIn_of _ (by decide +kernel)) ggL_law_X4_remove
set_option maxRecDepth 20000 in
theorem ggL_law_X5_remove : GoodIn wsL_law wsX5_remove := goodIn_r _ [344, 345, 346, 347, 5, 348, 225, 226, 227, 189, 190, 191, 228, 229, 230, 231, 145, 192, 193, 194, 195, 196, 147, 349, 350, 351, 352, 236, 237, 238, 239, 743, 744, 745, 746, 747, 748, 749, 750, 751, 752, 753, 754, 755, 756, 757, 758] (by decide +kernel) (by decide +kernel)
set_option maxRecDepth 20000 in
theorem gL_law_X5_remove : GoodIn wsL_law (wsV RL 36 RX5 yX5_remove wsX5_remove) := goodIn_app (goodIn_of _ (by decide +kernel)) ggL_law_X5_remove
set_option maxRecDepth 20000 in
theorem ggL_law_X4_snap : GoodIn wsL_law wsX4_snap := goodIn_r _ [356, 15, 24, 19, 328, 329, 330, 14, 331, 214, 80, 81, 82, 36, 83, 2, 84, 357, 93, 94, 95, 96, 97, 98, 99, 100, 101, 163, 164, 165, 23, 166, 53, 52, 167, 168, 169, 170, 171, 172, 173, 174, 175, 176, 358, 359, 360, 361, 181, 182, 183, 184, 65, 66, 67, 68, 69, 70, 71, 18, 72, 73, 74, 75, 76, 77, 40, 42, 41, 78, 79, 85, 86, 87, 88, 43, 45, 44, 89, 90, 91, 92, 102, 103, 104, 105, 106, 107, 108, 109, 110, 111, 112, 113, 114, 115, 116, 117, 118, 119, 120, 121, 122, 123, 124, 125, 46, 47, 126, 127, 128, 129, 130, 131, 132, 133, 134, 135, 136, 137, 138, 139, 140, 362, 363, 364, 365, 736, 737, 738, 739, 740, 741, 742, 759, 774, 775, 760, 761, 762, 763, 764, 765, 766, 767, 768, 769, 770, 771, 772, 773] (by decide +kernel) (by decide +kernel)
set_option maxRecDepth 20000 in
theorem gL_law_X4_snap : GoodIn wsL_law (wsV RL 37 RX4 yX4_snap wsX4_snap) := goodIn_app (goodIn_of _ (by decide +kernel)) ggL_law_X4_snap
set_option maxRecDepth 20000 in
theorem ggL_law_X5_snap : GoodIn wsL_law wsX5_snap := goodIn_r _ [369, 145, 152, 345, 346, 347, 5, 348, 225, 226, 227, 189, 190, 191, 228, 229, 230, 231, 370, 371, 372, 373, 236, 237, 238, 239, 192, 193, 194, 195, 196, 147, 374, 375, 376, 377, 378, 379, 380, 381, 382, 383, 384, 385, 151, 153, 156, 154, 155, 386, 387, 388, 389, 149, 150, 390, 391, 392, 393, 743, 744, 745, 746, 747, 748, 749, 750, 751, 752, 753, 754, 755, 756, 757, 758] (by decide +kernel) (by decide +kernel)
set_option maxRecDepth 20000 in
theorem gL_law_X5_snap : GoodIn wsL_law (wsV RL 41 RX5 yX5_snap wsX5_snap) := goodIn_app (goodIn_of _ (by decide +kernel)) ggL_law_X5_snap
