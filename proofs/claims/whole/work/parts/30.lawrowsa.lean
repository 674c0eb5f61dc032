set_option maxRecDepth 20000 in
theorem ggL_law_X4_init : GoodIn wsL_law wsX4_init := goodIn_r _ [8, 9, 10, 11, 12, 13, 14, 15, 16, 17, 18, 19, 20, 21, 22, 23, 24, 25, 26, 27, 28, 29, 30, 31, 32, 33, 34, 35, 36, 37, 38, 39, 40, 41, 42, 43, 44, 45, 46, 47, 48, 49, 50, 51, 52, 53, 54, 55, 56, 57, 58, 59, 60, 61, 62, 63, 64, 65, 66, 67, 68, 69, 70, 71, 72, 73, 74, 75, 76, 77, 78, 79, 80, 81, 82, 83, 2, 84, 85, 86, 87, 88, 89, 90, 91, 92, 93, 94, 95, 96, 97, 98, 99, 100, 101, 102, 103, 104, 105, 106, 107, 108, 109, 110, 111, 112, 113, 114, 115, 116, 117, 118, 119, 120, 121, 122, 123, 124, 125, 126, 127, 128, 129, 130, 131, 132, 133, 134, 135, 136, 137, 759, 736, 737, 738, 739, 740, 741, 742, 760, 761, 762, 763, 764, 765, 766, 767, 768, 769, 770, 771, 772, 773, 774, 775, 776, 777, 778, 779, 780, 781, 782] (by decide +kernel) (by decide +kernel)
set_option maxRecDepth 20000 in
theorem gL_law_X4_init : GoodIn wsL_law (wsX4_init) := ggL_law_X4_init
set_option maxRecDepth 20000 in
theorem ggL_law_X5_init : GoodIn wsL_law wsX5_init := goodIn_r _ [140, 141, 10, 11, 25, 142, 143, 144, 145, 146, 147, 148, 149, 150, 151, 152, 153, 743, 744, 745, 746, 747, 748, 749, 750, 751, 752, 753, 754, 755, 756, 757, 758] (by decide +kernel) (by decide +kernel)
set_option maxRecDepth 20000 in
theorem gL_law_X5_init : GoodIn wsL_law (wsX5_init) := ggL_law_X5_init
set_option maxRecDepth 20000 in
theorem ggL_law_X4_set : GoodIn wsL_law wsX4_set := goodIn_r _ [157, 158, 159, 15, 24, 65, 66, 67, 14, 68, 36, 160, 161, 162, 23, 163, 53, 52, 164, 2, 165, 166, 167, 168, 169, 170, 171, 172, 173, 174, 175, 176, 177, 178, 179, 180, 181, 19, 69, 70, 71, 18, 72, 73, 74, 75, 76, 77, 78, 79, 80, 81, 82, 40, 42, 43, 45, 44, 41, 83, 84, 85, 86, 87, 88, 89, 90, 91, 92, 93, 94, 95, 96, 97, 98, 99, 100, 101, 102, 103, 104, 105, 106, 107, 108, 109, 110, 111, 112, 113, 114, 115, 116, 117, 118, 119, 120, 121, 122, 123, 124, 125, 126, 46, 47, 127, 128, 129, 130, 131, 132, 133, 134, 135, 136, 137, 736, 737, 738, 739, 740, 741, 742, 759, 774, 775, 760, 761, 762, 763, 764, 765, 766, 767, 768, 769, 770, 771, 772, 773] (by decide +kernel) (by decide +kernel)
set_option maxRecDepth 20000 in
theorem gL_law_X4_set : GoodIn wsL_law (wsV RL 13 RX4 yX4_set wsX4_set) := goodIn_app (goodIn_of _ (by decide +kernel)) ggL_law_X4_set
set_option maxRecDepth 20000 in
theorem ggL_law_X5_set : GoodIn wsL_law wsX5_set := goodIn_r _ [185, 142, 186, 187, 5, 188, 189, 190, 191, 192, 193, 144, 743, 744, 745, 746, 747, 748, 749, 750, 751, 752, 753, 754, 755, 756, 757, 758] (by decide +kernel) (by decide +kernel)
set_option maxRecDepth 20000 in
theorem gL_law_X5_set : GoodIn wsL_law (wsV RL 17 RX5 yX5_set wsX5_set) := goodIn_app (goodIn_of _ (by decide +kernel)) ggL_law_X5_set
set_option maxRecDepth 20000 in
theorem ggL_law_X4_paragraph : GoodIn wsL_law wsX4_paragraph := goodIn_r _ [197, 15, 24, 198, 83, 2, 84, 199, 200, 201, 202, 86, 87, 14, 88, 36, 160, 161, 162, 23, 163, 53, 52, 164, 165, 166, 167, 168, 169, 170, 171, 172, 173, 203, 204, 205, 206, 207, 208, 209, 210, 211, 100, 101, 102, 212, 213, 214, 215, 216, 217, 178, 179, 180, 181, 19, 65, 66, 67, 68, 69, 70, 71, 18, 72, 73, 74, 75, 76, 77, 78, 79, 80, 81, 82, 40, 42, 43, 45, 44, 41, 85, 89, 90, 91, 92, 93, 94, 95, 96, 97, 98, 99, 103, 104, 105, 106, 107, 108, 109, 110, 111, 112, 113, 114, 115, 116, 117, 118, 119, 120, 121, 122, 123, 124, 125, 126, 46, 47, 127, 128, 129, 130, 131, 132, 133, 134, 135, 136, 137, 736, 737, 738, 739, 740, 741, 742, 759, 774, 775, 760, 761, 762, 763, 764, 765, 766, 767, 768, 769, 770, 771, 772, 773] (by decide +kernel) (by decide +kernel)
set_option maxRecDepth 20000 in
theorem gL_law_X4_paragraph : GoodIn wsL_law (wsV RL 18 RX4 yX4_paragraph wsX4_paragraph) := goodIn_app (goodIn_of _ (by decide +kernel)) ggL_law_X4_paragraph
set_option maxRecDepth 20000 in
theorem ggL_law_X5_paragraph : GoodIn wsL_law wsX5_paragraph := goodIn_r _ [221, 222, 223, 5, 224, 186, 187, 188, 225, 226, 227, 228, 142, 189, 190, 191, 192, 193, 144, 229, 230, 231, 232, 233, 234, 235, 236, 743, 744, 745, 746, 747, 748, 749, 750, 751, 752, 753, 754, 755, 756, 757, 758] (by decide +kernel) (by decide +kernel)
set_option maxRecDepth 20000 in
theorem gL_law_X5_paragraph : GoodIn wsL_law (wsV RL 22 RX5 yX5_paragraph wsX5_paragraph) := goodIn_app (goodIn_of _ (by decide +kernel)) ggL_law_X5_paragraph
set_option maxRecDepth 20000 in
theorem ggL_law_X4_put : GoodIn wsL_law wsX4_put := goodIn_r _ [240, 15, 24, 198, 83, 2, 84, 202, 86, 87, 14, 88, 36, 160, 161, 162, 23, 163, 53, 52, 164, 165, 166, 167, 168, 169, 170, 171, 172, 173, 241, 242, 243, 244, 207, 208, 209, 210, 211, 100, 101, 102, 245, 246, 214, 215, 216, 217, 178, 179, 180, 181, 19, 65, 66, 67, 68, 69, 70, 71, 18, 72, 73, 74, 75, 76, 77, 78, 79, 80, 81, 82, 40, 42, 43, 45, 44, 41, 85, 89, 90, 91, 92, 93, 94, 95, 96, 97, 98, 99, 103, 104, 105, 106, 107, 108, 109, 110, 111, 112, 113, 114, 115, 116, 117, 118, 119, 120, 121, 122, 123, 124, 125, 126, 46, 47, 127, 128, 129, 130, 131, 132, 133, 134, 135, 136, 137, 736, 737, 738, 739, 740, 741, 742, 759, 774, 775, 760, 761, 762, 763, 764, 765, 766, 767, 768, 769, 770, 771, 772, 773] (by decide +kernel) (by decide +kernel)
set_option maxRecDepth 20000 in
theorem gL_law_X4_put : GoodIn wsL_law (wsV RL 23 RX4 yX4_put wsX4_put) := goodIn_app (goodIn_of _ (by decide +kernel)) ggL_law_X4_put
set_option maxRecDepth 20000 in
theorem ggL_law_X5_put : GoodIn wsL_law wsX5_put := goodIn_r _ [250, 222, 223, 5, 224, 186, 187, 188, 225, 226, 227, 228, 142, 189, 190, 191, 192, 193, 144, 229, 230, 231, 232, 233, 234, 235, 236, 743, 744, 745, 746, 747, 748, 749, 750, 751, 752, 753, 754, 755, 756, 757, 758] (by decide +kernel) (by decide +kernel)
set_option maxRecDepth 20000 in
theorem gL_law_X5_put : GoodIn wsL_law (wsV RL 27 RX5 yX5_put wsX5_put) := goodIn_app (goodIn_of _ (by decide +kernel)) ggL_law_X5_put
set_option maxRecDepth 20000 in
theorem ggL_law_X4_putAll : GoodIn wsL_law wsX4_putAll := goodIn_r _ [254, 31, 15, 24, 198, 83, 2, 84, 255, 256, 257, 30, 258, 61, 62, 63, 59, 259, 260, 261, 262, 263, 264, 265, 266, 58, 267, 268, 269, 270, 271, 272, 273, 274, 64, 60, 275, 276, 277, 278, 279, 280, 281, 282, 212, 213, 200, 201, 283, 284, 285, 286, 245, 246, 287, 288, 289, 290, 202, 86, 87, 14, 88, 36, 291, 292, 293, 294, 160, 161, 162, 23, 163, 53, 52, 164, 165, 166, 167, 168, 169, 170, 171, 172, 173, 295, 296, 297, 298, 299, 300, 301, 302, 211, 100, 101, 102, 214, 215, 216, 217, 178, 179, 180, 181, 19, 65, 66, 67, 68, 69, 70, 71, 18, 72, 73, 74, 75, 76, 77, 78, 79, 80, 81, 82, 40, 42, 43, 45, 44, 41, 85, 89, 90, 91, 92, 93, 94, 95, 96, 97, 98, 99, 103, 104, 105, 106, 107, 108, 109, 110, 111, 112, 113, 114, 115, 116, 117, 118, 119, 120, 121, 122, 123, 124, 125, 126, 46, 47, 127, 128, 129, 130, 131, 132, 133, 134, 135, 136, 137, 736, 737, 738, 739, 740, 741, 742, 776, 777, 778, 779, 780, 781, 782, 759, 774, 775, 760, 761, 762, 763, 764, 765, 766, 767, 768, 769, 770, 771, 772, 773] (by decide +kernel) (by decide +kernel)
set_option maxRecDepth 20000 in
theorem gL_law_X4_putAll : GoodIn wsL_law (wsV RL 28 RX4 yX4_putAll wsX4_putAll) := goodIn_app (goodIn_of _ (by decide +kernel)) ggL_law_X4_putAll
set_option maxRecDepth 20000 in
theorem ggL_law_X5_putAll : GoodIn wsL_law wsX5_putAll := goodIn_r _ [306, 307, 308, 145, 222, 223, 5, 224, 186, 187, 188, 309, 310, 311, 312, 313, 314, 315, 316, 317, 318, 319, 320, 229, 230, 231, 232, 142, 225, 226, 227, 228, 233, 234, 235, 236, 189, 190, 191, 192, 193, 144, 743, 744, 745, 746, 747, 748, 749, 750, 751, 752, 753, 754, 755, 756, 757, 758] (by decide +kernel) (by decide +kernel)
set_option maxRecDepth 20000 in
theorem gL_law_X5_putAll : GoodIn wsL_law (wsV RL 32 RX5 yX5_putAll wsX5_putAll) := goodIn_app (goodIn_of _ (by decide +kernel)) ggL_law_X5_putAll
set_option maxRecDepth 20000 in
theorem ggL_law_X4_remove : GoodIn wsL_law wsX4_remove := goodIn_r _ [324, 15, 24, 325, 326, 327, 14, 328, 211, 86, 87, 88, 36, 83, 2, 84, 160, 161, 162, 23, 163, 53, 52, 164, 165, 166, 167, 168, 169, 170, 171, 172, 173, 329, 330, 331, 332, 333, 100, 101, 102, 334, 335, 336, 337, 214, 215, 216, 217, 178, 179, 180, 181, 19, 65, 66, 67, 68, 69, 70, 71, 18, 72, 73, 74, 75, 76, 77, 78, 79, 80, 81, 82, 40, 42, 43, 45, 44, 41, 85, 89, 90, 91, 92, 93, 94, 95, 96, 97, 98, 99, 103, 104, 105, 106, 107, 108, 109, 110, 111, 112, 113, 114, 115, 116, 117, 118, 119, 120, 121, 122, 123, 124, 125, 126, 46, 47, 127, 128, 129, 130, 131, 132, 133, 134, 135, 136, 137, 202, 736, 737, 738, 739, 740, 741, 742, 759, 774, 775, 760, 761, 762, 763, 764, 765, 766, 767, 768, 769, 770, 771, 772, 773] (by decide +kernel) (by decide +kernel)
set_option maxRecDepth 20000 in
theorem gL_law_X4_remove : GoodIn wsL_law (wsV RL 33 RX4 yX4_remove wsX4_remove) := goodIn_app (goodIn_of _ (by decide +kernel)) ggL_law_X4_remove
set_option maxRecDepth 20000 in
theorem ggL_law_X5_remove : GoodIn wsL_law wsX5_remove := goodIn_r _ [341, 342, 343, 344, 5, 345, 222, 223, 224, 186, 187, 188, 225, 226, 227, 228, 142, 189, 190, 191, 192, 193, 144, 346, 347, 348, 349, 233, 234, 235, 236, 743, 744, 745, 746, 747, 748, 749, 750, 751, 752, 753, 754, 755, 756, 757, 758] (by decide +kernel) (by decide +kernel)
set_option maxRecDepth 20000 in
theorem gL_law_X5_remove : GoodIn wsL_law (wsV RL 36 RX5 yX5_remove wsX5_remove) := goodIn_app (goodIn_of _ (by decide +kernel)) ggL_law_X5_remove
set_option maxRecDepth 20000 in
theorem ggL_law_X4_snap : GoodIn wsL_law wsX4_snap := goodIn_r _ [353, 15, 24, 19, 325, 326, 327, 14, 328, 211, 86, 87, 88, 36, 83, 2, 84, 354, 94, 95, 96, 97, 98, 99, 100, 101, 102, 160, 161, 162, 23, 163, 53, 52, 164, 165, 166, 167, 168, 169, 170, 171, 172, 173, 355, 356, 357, 358, 178, 179, 180, 181, 65, 66, 67, 68, 69, 70, 71, 18, 72, 73, 74, 75, 76, 77, 78, 79, 80, 81, 82, 40, 42, 43, 45, 44, 41, 85, 89, 90, 91, 92, 93, 103, 104, 105, 106, 107, 108, 109, 110, 111, 112, 113, 114, 115, 116, 117, 118, 119, 120, 121, 122, 123, 124, 125, 126, 46, 47, 127, 128, 129, 130, 131, 132, 133, 134, 135, 136, 137, 359, 360, 361, 362, 736, 737, 738, 739, 740, 741, 742, 759, 774, 775, 760, 761, 762, 763, 764, 765, 766, 767, 768, 769, 770, 771, 772, 773] (by decide +kernel) (by decide +kernel)
set_option maxRecDepth 20000 in
theorem gL_law_X4_snap : GoodIn wsL_law (wsV RL 37 RX4 yX4_snap wsX4_snap) := goodIn_app (goodIn_of _ (by decide +kernel)) ggL_law_X4_snap
set_option maxRecDepth 20000 in
theorem ggL_law_X5_snap : GoodIn wsL_law wsX5_snap := goodIn_r _ [366, 142, 149, 342, 343, 344, 5, 345, 222, 223, 224, 186, 187, 188, 225, 226, 227, 228, 367, 368, 369, 370, 233, 234, 235, 236, 189, 190, 191, 192, 193, 144, 371, 372, 373, 374, 375, 376, 377, 378, 379, 380, 381, 382, 148, 150, 153, 151, 152, 383, 384, 385, 386, 146, 147, 387, 388, 389, 390, 743, 744, 745, 746, 747, 748, 749, 750, 751, 752, 753, 754, 755, 756, 757, 758] (by decide +kernel) (by decide +kernel)
set_option maxRecDepth 20000 in
theorem gL_law_X5_snap : GoodIn wsL_law (wsV RL 41 RX5 yX5_snap wsX5_snap) := goodIn_app (goodIn_of _ (by decide +kernel)) ggL_law_X5_snap
